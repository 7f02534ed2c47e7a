/-! THE REFERENCE: isEven, one turn (walks by wip/gen98f.py) -/
theorem sD_none {D : Nat → Option Nat} {h : Nat} : sD D none h = D := by funext q; simp [sD]
theorem sD_sml {n : Nat} {D : Nat → Option Nat} {o : Option Nat} {h : Nat} (hs : ∀ k q, D k = some q → q ≤ 60) (hnb : ¬ bad n D o h) : ∀ k q, sD D o h k = some q → q ≤ 60 := by
  intro k q hk
  unfold sD at hk
  split at hk
  · rename_i e
    cases hk
    exact Nat.not_lt.mp (fun w => hnb ⟨k, e, .inr (.inl w)⟩)
  · exact hs k q hk
theorem tg_sml {n : Int32} (hn : ¬ n < 0 ∧ n < 21) : tkn n ≤ 3 ∧ gvn n ≤ 2 := by
  obtain ⟨jn, hjn, rfl⟩ := nI_of hn.1
  obtain ⟨⟨t1, t2⟩, t3, t4⟩ := tk_all jn ((nI_ltI (by omega) (by omega) (b := 21)).mp hn.2)
  exact ⟨t2, t4⟩
section MOG
variable {Bk : xS} {z : Nat} {NK : List Nat} {g : mx_G} {P : Option Value → xS → Prop} {th va fu hg : Int32} {nu ag lo wo ro : Nat → Int32} {c : List II}
set_option maxRecDepth 8000 in
theorem ev_b {i h2 : Nat} {x4 : Int32} {D1 : Nat → Option Nat} {he go : Nat → Int32} {S : xS} (hC : CO c nu ag) (hn : c.length ≤ 400) (hil : i < c.length) (h18 : nb c i = 18 → i + 1 < c.length) (hM : MO Bk z S th (nI c.length) va fu hg nu ag lo wo he go ro) (hD : ∀ k, k < c.length → he k = oI (D1 k)) (hs : ∀ k q, D1 k = some q → q ≤ 60) (hh : h2 < 2 ^ 30) (hx : ∀ j, gol c i = some j → (nb c i = 18 → x4 - 1 = nI h2) ∧ (¬ nb c i = 18 → x4 = nI h2)) (hP0 : bad c.length D1 (gol c i) h2 → xw z NK g 128 226 [(0, .ref (z + 52)), (1, .int 0), (2, .int 1), (3, .int (nI i)), (4, .int x4)] [] S P) (hP1 : ∀ he' S', MO Bk z S' th (nI c.length) va fu hg nu ag lo wo he' go ro → ¬ bad c.length D1 (gol c i) h2 → (∀ k, k < c.length → he' k = oI (sD D1 (gol c i) h2 k)) → xw z NK g 128 226 [(0, .ref (z + 52)), (1, .int 1), (2, .int 1), (3, .int (nI i)), (4, .int x4)] [] S' P) : xw z NK g 128 177 [(0, .ref (z + 52)), (1, .int 1), (2, .int 1), (3, .int (nI i)), (4, .int x4)] [] S P := by
  obtain ⟨q52, q53, q54, q55, q56, q57, q58, q59, qB⟩ := id hM
  have ec : (nI i).toNatClampNeg = i := nI_clamp (by omega)
  obtain ⟨a1, a2⟩ := hC i hil
  refine xw.steps 3 (fun _ => rfl) ?_
  show xw z NK g 128 180 [(0, .ref (z + 52)), (1, .int 1), (2, .int 1), (3, .int (nI i)), (4, .int x4)] [.int 1, .int (nI i), .ref (z + 52)] S P
  refine xw.callO (o := 52) rfl rfl rfl q52 rfl rfl (c_way1 hM hC hn hil h18 ?_)
  show xw z NK g 128 183 [(0, .ref (z + 52)), (1, .int 1), (2, .int 1), (3, .int (nI i)), (4, .int x4)] [.int (oI (gol c i))] S P
  refine xw.steps 1 (fun _ => rfl) ?_
  refine xw.icmp rfl (fun c1 => ?_) (fun c1 => ?_)
  · have c1 := of_decide_eq_true c1
    refine xw.steps 3 (fun _ => rfl) ?_
    show xw z NK g 128 226 [(0, .ref (z + 52)), (1, .int 1), (2, .int 1), (3, .int (nI i)), (4, .int x4)] [] S P
    have e : gol c i = none := (oI_none (fun j hj => by have := gol_lt hj; omega)).mp c1
    exact hP1 he S hM (fun w => by obtain ⟨j, w, -⟩ := w; rw [e] at w; cases w) (by rw [e, sD_none]; exact hD)
  · have c1 := of_decide_eq_false c1
    refine xw.steps 4 (fun _ => rfl) ?_
    show xw z NK g 128 191 [(0, .ref (z + 52)), (1, .int 1), (2, .int 1), (3, .int (nI i)), (4, .int x4)] [.int 1, .int (nI i), .ref (z + 52), .ref (z + 52)] S P
    refine xw.callO (o := 52) rfl rfl rfl q52 rfl rfl (c_way1 hM hC hn hil h18 ?_)
    show xw z NK g 128 194 [(0, .ref (z + 52)), (1, .int 1), (2, .int 1), (3, .int (nI i)), (4, .int x4)] [.int (oI (gol c i)), .ref (z + 52)] S P
    refine xw.steps 1 (fun _ => rfl) ?_
    refine xw.getf (o := 52) rfl q52 rfl ?_
    refine xw.steps 1 (fun _ => rfl) ?_
    refine xw.ald (o := 53) rfl q53 (nI_in (by omega) (by omega)) ?_
    refine xw.steps 1 (fun _ => rfl) ?_
    refine xw.icmp rfl (fun c2 => ?_) (fun c2 => ?_)
    · have c2 := of_decide_eq_true c2
      refine xw.steps 1 (fun _ => rfl) ?_
      show xw z NK g 128 214 [(0, .ref (z + 52)), (1, .int 1), (2, .int 1), (3, .int (nI i)), (4, .int x4)] [.int x4, .int (oI (gol c i)), .ref (z + 52)] S P
      obtain ⟨j, hj⟩ : ∃ j, gol c i = some j := by
        cases hg2 : gol c i with
        | none => rw [hg2] at c1; exact absurd rfl c1
        | some j => exact ⟨j, rfl⟩
      rw [ec, a1] at c2
      have e4 := (hx j hj).2 c2
      have e5 : oI (gol c i) = nI j := by rw [hj]; rfl
      have hb := bad_iff (n := c.length) hD hs hh hj
      rw [e5]
      subst e4
      show xw z NK g 128 214 [(0, .ref (z + 52)), (1, .int 1), (2, .int 1), (3, .int (nI i)), (4, .int (nI h2))] [.int (nI h2), .int (nI j), .ref (z + 52)] S P
      refine xw.callO (o := 52) rfl rfl rfl q52 rfl rfl (c_comes hM hn (by have := gol_lt hj; omega) hh (fun w => ?_) (fun w1 w2 w3 S' hM' => ?_))
      · skip
        show xw z NK g 128 217 [(0, .ref (z + 52)), (1, .int 1), (2, .int 1), (3, .int (nI i)), (4, .int (nI h2))] [.int 0] S P
        refine xw.steps 1 (pc' := 224) (fun _ => rfl) ?_
        refine xw.steps 2 (fun _ => rfl) ?_
        show xw z NK g 128 226 [(0, .ref (z + 52)), (1, .int 0), (2, .int 1), (3, .int (nI i)), (4, .int (nI h2))] [] S P
        exact hP0 (hb.mpr w)
      · skip
        show xw z NK g 128 217 [(0, .ref (z + 52)), (1, .int 1), (2, .int 1), (3, .int (nI i)), (4, .int (nI h2))] [.int 1] S' P
        refine xw.steps 1 (pc' := 220) (fun _ => rfl) ?_
        refine xw.steps 3 (fun _ => rfl) ?_
        show xw z NK g 128 226 [(0, .ref (z + 52)), (1, .int 1), (2, .int 1), (3, .int (nI i)), (4, .int (nI h2))] [] S' P
        exact hP1 _ S' hM' (fun w => (hb.mp w).elim (fun w => absurd w (by omega)) (fun w => w.elim w2 (fun w => w3.elim w.1 w.2))) (he_sD hD hj)
    · have c2 := Decidable.not_not.mp (of_decide_eq_false c2)
      refine xw.steps 4 (fun _ => rfl) ?_
      show xw z NK g 128 214 [(0, .ref (z + 52)), (1, .int 1), (2, .int 1), (3, .int (nI i)), (4, .int x4)] [.int (x4 - 1), .int (oI (gol c i)), .ref (z + 52)] S P
      obtain ⟨j, hj⟩ : ∃ j, gol c i = some j := by
        cases hg2 : gol c i with
        | none => rw [hg2] at c1; exact absurd rfl c1
        | some j => exact ⟨j, rfl⟩
      rw [ec, a1] at c2
      have e4 := (hx j hj).1 c2
      have e5 : oI (gol c i) = nI j := by rw [hj]; rfl
      have hb := bad_iff (n := c.length) hD hs hh hj
      rw [e5]
      rw [e4]
      show xw z NK g 128 214 [(0, .ref (z + 52)), (1, .int 1), (2, .int 1), (3, .int (nI i)), (4, .int x4)] [.int (nI h2), .int (nI j), .ref (z + 52)] S P
      refine xw.callO (o := 52) rfl rfl rfl q52 rfl rfl (c_comes hM hn (by have := gol_lt hj; omega) hh (fun w => ?_) (fun w1 w2 w3 S' hM' => ?_))
      · skip
        show xw z NK g 128 217 [(0, .ref (z + 52)), (1, .int 1), (2, .int 1), (3, .int (nI i)), (4, .int x4)] [.int 0] S P
        refine xw.steps 1 (pc' := 224) (fun _ => rfl) ?_
        refine xw.steps 2 (fun _ => rfl) ?_
        show xw z NK g 128 226 [(0, .ref (z + 52)), (1, .int 0), (2, .int 1), (3, .int (nI i)), (4, .int x4)] [] S P
        exact hP0 (hb.mpr w)
      · skip
        show xw z NK g 128 217 [(0, .ref (z + 52)), (1, .int 1), (2, .int 1), (3, .int (nI i)), (4, .int x4)] [.int 1] S' P
        refine xw.steps 1 (pc' := 220) (fun _ => rfl) ?_
        refine xw.steps 3 (fun _ => rfl) ?_
        show xw z NK g 128 226 [(0, .ref (z + 52)), (1, .int 1), (2, .int 1), (3, .int (nI i)), (4, .int x4)] [] S' P
        exact hP1 _ S' hM' (fun w => (hb.mp w).elim (fun w => absurd w (by omega)) (fun w => w.elim w2 (fun w => w3.elim w.1 w.2))) (he_sD hD hj)
set_option maxRecDepth 8000 in
theorem ev_turn {i h : Nat} {mo : Int32} {D : Nat → Option Nat} {Pr : List Nat} {he go : Nat → Int32} {S : xS} (hC : CO c nu ag) (hn : c.length ≤ 400) (h18 : nb c i = 18 → i + 1 < c.length) (hft : ¬ nb c i < 0 ∧ nb c i < 21) (hE : EvI c D Pr) (hi : D i = some h) (hp : i ∉ Pr) (hM : MO Bk z S th (nI c.length) va fu hg nu ag lo wo he go ro) (hD : ∀ k, k < c.length → he k = oI (D k)) (hP : ∀ he' D' gd S', MO Bk z S' th (nI c.length) va fu hg nu ag lo wo he' go ro → ((gd = 0 ∧ ¬ ∃ H, OkH c H) ∨ (gd = 1 ∧ (∀ k, k < c.length → he' k = oI (D' k)) ∧ EvI c D' (i :: Pr))) → xw z NK g 128 226 [(0, .ref (z + 52)), (1, .int gd), (2, .int 1), (3, .int (nI i))] [] S' P) : xw z NK g 128 94 [(0, .ref (z + 52)), (1, .int 1), (2, .int mo), (3, .int (nI i))] [] S P := by
  obtain ⟨hil, h60⟩ := ev_sml hE i h hi
  obtain ⟨hg1, hg2⟩ := tg_sml hft
  have hs : ∀ k q, D k = some q → q ≤ 60 := fun k q hk => (ev_sml hE k q hk).2
  obtain ⟨s1, s2, s3⟩ := ev_step hE hi hp
  obtain ⟨q52, q53, q54, q55, q56, q57, q58, q59, qB⟩ := id hM
  have ec : (nI i).toNatClampNeg = i := nI_clamp (by omega)
  obtain ⟨a1, a2⟩ := hC i hil
  refine xw.steps 3 (fun _ => rfl) ?_
  refine xw.getf (o := 52) rfl q52 rfl ?_
  refine xw.steps 1 (fun _ => rfl) ?_
  refine xw.ald (o := 57) rfl q57 (nI_in (by omega) (by omega)) ?_
  refine xw.steps 1 (fun _ => rfl) ?_
  refine xw.getf (o := 52) rfl q52 rfl ?_
  refine xw.steps 1 (fun _ => rfl) ?_
  refine xw.ald (o := 53) rfl q53 (nI_in (by omega) (by omega)) ?_
  show xw z NK g 128 108 [(0, .ref (z + 52)), (1, .int 1), (2, .int 1), (3, .int (nI i))] [.int (nu (nI i).toNatClampNeg), .int (he (nI i).toNatClampNeg)] S P
  refine xw.callS rfl rfl rfl rfl rfl (c_gives (by rw [ec, a1]; exact hft) ?_)
  show xw z NK g 128 111 [(0, .ref (z + 52)), (1, .int 1), (2, .int 1), (3, .int (nI i))] [.int (mgv (nu (nI i).toNatClampNeg)), .int (he (nI i).toNatClampNeg)] S P
  refine xw.steps 3 (fun _ => rfl) ?_
  refine xw.getf (o := 52) rfl q52 rfl ?_
  refine xw.steps 1 (fun _ => rfl) ?_
  refine xw.ald (o := 57) rfl q57 (nI_in (by omega) (by omega)) ?_
  refine xw.steps 1 (fun _ => rfl) ?_
  refine xw.getf (o := 52) rfl q52 rfl ?_
  refine xw.steps 1 (fun _ => rfl) ?_
  refine xw.ald (o := 53) rfl q53 (nI_in (by omega) (by omega)) ?_
  show xw z NK g 128 126 [(0, .ref (z + 52)), (1, .int 1), (2, .int 1), (3, .int (nI i)), (4, .int ((he (nI i).toNatClampNeg) + (mgv (nu (nI i).toNatClampNeg))))] [.int (nu (nI i).toNatClampNeg), .int (he (nI i).toNatClampNeg)] S P
  refine xw.callS rfl rfl rfl rfl rfl (c_takes (by rw [ec, a1]; exact hft) ?_)
  show xw z NK g 128 129 [(0, .ref (z + 52)), (1, .int 1), (2, .int 1), (3, .int (nI i)), (4, .int ((he (nI i).toNatClampNeg) + (mgv (nu (nI i).toNatClampNeg))))] [.int (nI (tkn (nu (nI i).toNatClampNeg))), .int (he (nI i).toNatClampNeg)] S P
  refine xw.icmp rfl (fun c1 => ?_) (fun c1 => ?_)
  · have c1 := of_decide_eq_true c1
    refine xw.steps 3 (fun _ => rfl) ?_
    refine xw.steps 1 (pc' := 171) (fun _ => rfl) ?_
    refine xw.steps 3 (fun _ => rfl) ?_
    refine xw.steps 1 (pc' := 224) (fun _ => rfl) ?_
    refine xw.steps 2 (fun _ => rfl) ?_
    show xw z NK g 128 226 [(0, .ref (z + 52)), (1, .int 0), (2, .int 1), (3, .int (nI i)), (4, .int ((he (nI i).toNatClampNeg) + (mgv (nu (nI i).toNatClampNeg))))] [] S P
    refine xw.forget (lv := [(0, .ref (z + 52)), (1, .int 0), (2, .int 1), (3, .int (nI i))]) lk_128 (show [0, 1, 2, 3].Nodup by decide) (show [0, 1, 2, 3, 4].Nodup by decide) (List.forall_mem_cons.mpr ⟨rfl, List.forall_mem_cons.mpr ⟨rfl, List.forall_mem_cons.mpr ⟨rfl, List.forall_mem_cons.mpr ⟨rfl, fun _ h => absurd h List.not_mem_nil⟩⟩⟩⟩) ?_
    rw [ec, a1, hD i hil, hi] at c1
    exact hP he D 0 S hM (.inl ⟨rfl, s1 ((nI_ltI (by omega) (by omega)).mp c1)⟩)
  · have c1 := of_decide_eq_false c1
    refine xw.steps 4 (fun _ => rfl) ?_
    refine xw.steps 1 (pc' := 142) (fun _ => rfl) ?_
    refine xw.steps 3 (fun _ => rfl) ?_
    show xw z NK g 128 145 [(0, .ref (z + 52)), (1, .int 1), (2, .int 1), (3, .int (nI i)), (4, .int ((he (nI i).toNatClampNeg) + (mgv (nu (nI i).toNatClampNeg))))] [.int 0, .int (nI i), .ref (z + 52)] S P
    refine xw.callO (o := 52) rfl rfl rfl q52 rfl rfl (c_way0 hM hC hn hil ?_)
    show xw z NK g 128 148 [(0, .ref (z + 52)), (1, .int 1), (2, .int 1), (3, .int (nI i)), (4, .int ((he (nI i).toNatClampNeg) + (mgv (nu (nI i).toNatClampNeg))))] [.int (oI (nxt c i))] S P
    refine xw.steps 1 (fun _ => rfl) ?_
    refine xw.icmp rfl (fun c2 => ?_) (fun c2 => ?_)
    · have c2 := of_decide_eq_true c2
      refine xw.steps 4 (fun _ => rfl) ?_
      refine xw.steps 1 (pc' := 177) (fun _ => rfl) ?_
      show xw z NK g 128 177 [(0, .ref (z + 52)), (1, .int 1), (2, .int 1), (3, .int (nI i)), (4, .int ((he (nI i).toNatClampNeg) + (mgv (nu (nI i).toNatClampNeg))))] [] S P
      have hl : tkn (nb c i) ≤ h := by
        rw [ec, a1, hD i hil, hi] at c1
        exact Nat.not_lt.mp (fun w => c1 ((nI_ltI (by omega) (by omega)).mpr w))
      have e : nxt c i = none := (oI_none (fun j hj => by have := nxt_le hj; omega)).mp c2
      have hnb : ¬ bad c.length D (nxt c i) (h - tkn (nb c i) + gvn (nb c i)) := fun w => by obtain ⟨j, w, -⟩ := w; rw [e] at w; cases w
      have hD1 : ∀ k, k < c.length → he k = oI (sD D (nxt c i) (h - tkn (nb c i) + gvn (nb c i)) k) := by rw [e, sD_none]; exact hD
      have e4g : ¬ nb c i = 16 → ((he (nI i).toNatClampNeg) + (mgv (nu (nI i).toNatClampNeg))) = nI (h - tkn (nb c i) + gvn (nb c i)) := fun w => by rw [ec, a1, hD i hil, hi]; exact ev_x4 w hl
      obtain ⟨t1, t2⟩ := s3 hl hnb
      refine ev_b (D1 := sD D (nxt c i) (h - tkn (nb c i) + gvn (nb c i))) (h2 := (h - tkn (nb c i))) hC hn hil h18 hM hD1 (sD_sml hs hnb) (by omega) (fun j hj => ?_) (fun hb => ?_) (fun he2 S2 hM2 hb hD2 => ?_)
      · rw [e4g (gol_n16 hj)]
        exact ⟨fun w => by rw [(gol_gv hj).1 w]; exact nI_pred _, fun w => by rw [(gol_gv hj).2 w]; rfl⟩
      · refine xw.forget (lv := [(0, .ref (z + 52)), (1, .int 0), (2, .int 1), (3, .int (nI i))]) lk_128 (show [0, 1, 2, 3].Nodup by decide) (show [0, 1, 2, 3, 4].Nodup by decide) (List.forall_mem_cons.mpr ⟨rfl, List.forall_mem_cons.mpr ⟨rfl, List.forall_mem_cons.mpr ⟨rfl, List.forall_mem_cons.mpr ⟨rfl, fun _ h => absurd h List.not_mem_nil⟩⟩⟩⟩) ?_
        exact hP _ D 0 _ hM (.inl ⟨rfl, t1 hb⟩)
      · refine xw.forget (lv := [(0, .ref (z + 52)), (1, .int 1), (2, .int 1), (3, .int (nI i))]) lk_128 (show [0, 1, 2, 3].Nodup by decide) (show [0, 1, 2, 3, 4].Nodup by decide) (List.forall_mem_cons.mpr ⟨rfl, List.forall_mem_cons.mpr ⟨rfl, List.forall_mem_cons.mpr ⟨rfl, List.forall_mem_cons.mpr ⟨rfl, fun _ h => absurd h List.not_mem_nil⟩⟩⟩⟩) ?_
        exact hP he2 _ 1 S2 hM2 (.inr ⟨rfl, hD2, t2 hb⟩)
    · have c2 := of_decide_eq_false c2
      refine xw.steps 4 (fun _ => rfl) ?_
      show xw z NK g 128 156 [(0, .ref (z + 52)), (1, .int 1), (2, .int 1), (3, .int (nI i)), (4, .int ((he (nI i).toNatClampNeg) + (mgv (nu (nI i).toNatClampNeg))))] [.int 0, .int (nI i), .ref (z + 52), .ref (z + 52)] S P
      refine xw.callO (o := 52) rfl rfl rfl q52 rfl rfl (c_way0 hM hC hn hil ?_)
      show xw z NK g 128 159 [(0, .ref (z + 52)), (1, .int 1), (2, .int 1), (3, .int (nI i)), (4, .int ((he (nI i).toNatClampNeg) + (mgv (nu (nI i).toNatClampNeg))))] [.int (oI (nxt c i)), .ref (z + 52)] S P
      refine xw.steps 1 (fun _ => rfl) ?_
      show xw z NK g 128 161 [(0, .ref (z + 52)), (1, .int 1), (2, .int 1), (3, .int (nI i)), (4, .int ((he (nI i).toNatClampNeg) + (mgv (nu (nI i).toNatClampNeg))))] [.int ((he (nI i).toNatClampNeg) + (mgv (nu (nI i).toNatClampNeg))), .int (oI (nxt c i)), .ref (z + 52)] S P
      have hl : tkn (nb c i) ≤ h := by
        rw [ec, a1, hD i hil, hi] at c1
        exact Nat.not_lt.mp (fun w => c1 ((nI_ltI (by omega) (by omega)).mpr w))
      obtain ⟨j, hj⟩ : ∃ j, nxt c i = some j := by
        cases hg2 : nxt c i with
        | none => rw [hg2] at c2; exact absurd rfl c2
        | some j => exact ⟨j, rfl⟩
      have e4 : ((he (nI i).toNatClampNeg) + (mgv (nu (nI i).toNatClampNeg))) = nI (h - tkn (nb c i) + gvn (nb c i)) := by rw [ec, a1, hD i hil, hi]; exact ev_x4 (nxt_n16 hj) hl
      have e5 : oI (nxt c i) = nI j := by rw [hj]; rfl
      have hb := bad_iff (n := c.length) (h := (h - tkn (nb c i) + gvn (nb c i))) hD hs (by omega) hj
      rw [e4, e5]
      show xw z NK g 128 161 [(0, .ref (z + 52)), (1, .int 1), (2, .int 1), (3, .int (nI i)), (4, .int (nI (h - tkn (nb c i) + gvn (nb c i))))] [.int (nI (h - tkn (nb c i) + gvn (nb c i))), .int (nI j), .ref (z + 52)] S P
      refine xw.callO (o := 52) rfl rfl rfl q52 rfl rfl (c_comes hM hn (by have := nxt_le hj; omega) (by omega) (fun w => ?_) (fun w1 w2 w3 S' hM' => ?_))
      · skip
        show xw z NK g 128 164 [(0, .ref (z + 52)), (1, .int 1), (2, .int 1), (3, .int (nI i)), (4, .int (nI (h - tkn (nb c i) + gvn (nb c i))))] [.int 0] S P
        refine xw.steps 1 (pc' := 171) (fun _ => rfl) ?_
        refine xw.steps 3 (fun _ => rfl) ?_
        refine xw.steps 1 (pc' := 224) (fun _ => rfl) ?_
        refine xw.steps 2 (fun _ => rfl) ?_
        show xw z NK g 128 226 [(0, .ref (z + 52)), (1, .int 0), (2, .int 1), (3, .int (nI i)), (4, .int (nI (h - tkn (nb c i) + gvn (nb c i))))] [] S P
        refine xw.forget (lv := [(0, .ref (z + 52)), (1, .int 0), (2, .int 1), (3, .int (nI i))]) lk_128 (show [0, 1, 2, 3].Nodup by decide) (show [0, 1, 2, 3, 4].Nodup by decide) (List.forall_mem_cons.mpr ⟨rfl, List.forall_mem_cons.mpr ⟨rfl, List.forall_mem_cons.mpr ⟨rfl, List.forall_mem_cons.mpr ⟨rfl, fun _ h => absurd h List.not_mem_nil⟩⟩⟩⟩) ?_
        exact hP he D 0 S hM (.inl ⟨rfl, s2 hl (hb.mpr w)⟩)
      · skip
        show xw z NK g 128 164 [(0, .ref (z + 52)), (1, .int 1), (2, .int 1), (3, .int (nI i)), (4, .int (nI (h - tkn (nb c i) + gvn (nb c i))))] [.int 1] S' P
        refine xw.steps 1 (pc' := 167) (fun _ => rfl) ?_
        refine xw.steps 4 (fun _ => rfl) ?_
        refine xw.steps 1 (pc' := 177) (fun _ => rfl) ?_
        show xw z NK g 128 177 [(0, .ref (z + 52)), (1, .int 1), (2, .int 1), (3, .int (nI i)), (4, .int (nI (h - tkn (nb c i) + gvn (nb c i))))] [] S' P
        have hnb : ¬ bad c.length D (nxt c i) (h - tkn (nb c i) + gvn (nb c i)) := fun w => (hb.mp w).elim (fun w => absurd w (by omega)) (fun w => w.elim w2 (fun w => w3.elim w.1 w.2))
        have hD1 := he_sD (h := (h - tkn (nb c i) + gvn (nb c i))) hD hj
        have e4g : ¬ nb c i = 16 → (nI (h - tkn (nb c i) + gvn (nb c i))) = nI (h - tkn (nb c i) + gvn (nb c i)) := fun _ => rfl
        obtain ⟨t1, t2⟩ := s3 hl hnb
        refine ev_b (D1 := sD D (nxt c i) (h - tkn (nb c i) + gvn (nb c i))) (h2 := (h - tkn (nb c i))) hC hn hil h18 hM' hD1 (sD_sml hs hnb) (by omega) (fun j hj => ?_) (fun hb => ?_) (fun he2 S2 hM2 hb hD2 => ?_)
        · rw [e4g (gol_n16 hj)]
          exact ⟨fun w => by rw [(gol_gv hj).1 w]; exact nI_pred _, fun w => by rw [(gol_gv hj).2 w]; rfl⟩
        · refine xw.forget (lv := [(0, .ref (z + 52)), (1, .int 0), (2, .int 1), (3, .int (nI i))]) lk_128 (show [0, 1, 2, 3].Nodup by decide) (show [0, 1, 2, 3, 4].Nodup by decide) (List.forall_mem_cons.mpr ⟨rfl, List.forall_mem_cons.mpr ⟨rfl, List.forall_mem_cons.mpr ⟨rfl, List.forall_mem_cons.mpr ⟨rfl, fun _ h => absurd h List.not_mem_nil⟩⟩⟩⟩) ?_
          exact hP _ D 0 _ hM' (.inl ⟨rfl, t1 hb⟩)
        · refine xw.forget (lv := [(0, .ref (z + 52)), (1, .int 1), (2, .int 1), (3, .int (nI i))]) lk_128 (show [0, 1, 2, 3].Nodup by decide) (show [0, 1, 2, 3, 4].Nodup by decide) (List.forall_mem_cons.mpr ⟨rfl, List.forall_mem_cons.mpr ⟨rfl, List.forall_mem_cons.mpr ⟨rfl, List.forall_mem_cons.mpr ⟨rfl, fun _ h => absurd h List.not_mem_nil⟩⟩⟩⟩) ?_
          exact hP he2 _ 1 S2 hM2 (.inr ⟨rfl, hD2, t2 hb⟩)
end MOG
