/-! THE REFERENCE: its object, and its first methods (walks by wip/gen85.py) -/
abbrev MO (Bk : xS) (z : Nat) (S : xS) (th sz va fu hg : Int32) (nu ag lo wo he go ro : Nat → Int32) : Prop :=
  S 52 = some (.inr (.inr (10, [.int th, .int sz, .ref (z + 53), .ref (z + 54), .ref (z + 55), .ref (z + 56), .int va, .int fu, .ref (z + 57), .ref (z + 58), .ref (z + 59), .int hg]))) ∧
  S 53 = some (.inr (.inl (false, 400, nu))) ∧ S 54 = some (.inr (.inl (false, 400, ag))) ∧ S 55 = some (.inr (.inl (false, 16, lo))) ∧ S 56 = some (.inr (.inl (false, 64, wo))) ∧
  S 57 = some (.inr (.inl (false, 400, he))) ∧ S 58 = some (.inr (.inl (true, 400, go))) ∧ S 59 = some (.inr (.inl (false, 61, ro))) ∧ ∀ q, q < 52 ∨ 60 ≤ q → S q = Bk q
abbrev CO (c : List II) (nu ag : Nat → Int32) : Prop := ∀ i, i < c.length → nu i = nb c i ∧ ag i = ar c i
theorem plc_first {c : List II} {k : Int32} {i : Nat} (h : ∀ q, q < i → ¬ (nb c q = 13 ∧ ar c q = k)) (hi : i < c.length) (h1 : nb c i = 13) (h2 : ar c i = k) : plc c k = some i := by
  have e : q0 c i = (13, k) := by
    have : q0 c i = (nb c i, ar c i) := rfl
    rw [this, h1, h2]
  have hs : c = c.take i ++ (13, k) :: c.drop (i + 1) := by
    rw [← e, ← drop_q0 hi]; exact (List.take_append_drop i c).symm
  have ha : after c k = some (c.drop (i + 1)) := by
    have := after_of (p := c.take i) (t := c.drop (i + 1)) (k := k) (fun x hx w => by
      obtain ⟨q, hq, eq⟩ := List.getElem_of_mem hx
      rw [List.length_take] at hq
      refine h q (by omega) ?_
      have e2 : q0 c q = x := by
        unfold q0
        rw [List.getD_eq_getElem?_getD, List.getElem?_eq_getElem (by omega), ← eq, List.getElem_take]
        rfl
      unfold nb ar
      rw [e2]
      exact w)
    rw [← hs] at this
    exact this
  unfold plc
  rw [ha]
  show some (c.length - (c.drop (i + 1)).length - 1) = some i
  rw [List.length_drop]
  congr 1
  omega
theorem plc_none {c : List II} {k : Int32} (h : ∀ q, q < c.length → ¬ (nb c q = 13 ∧ ar c q = k)) : plc c k = none := by
  cases hp : plc c k with
  | none => rfl
  | some j =>
    exfalso
    refine h j (plc_lt hp) ?_
    unfold nb ar
    rw [plc_nb hp]
    exact ⟨rfl, rfl⟩
section MOD
variable {Bk : xS} {z : Nat} {NK : List Nat} {g : mx_G} {S : xS} {P : Option Value → xS → Prop} {th sz va fu hg : Int32} {nu ag lo wo he go ro : Nat → Int32} {c : List II}
set_option maxHeartbeats 1000000 in
/-- RowCodeModel.thrown()I -/
theorem c_thrown (hM : MO Bk z S th sz va fu hg nu ag lo wo he go ro) (hP : P (some (.int th)) S) : xw z NK g 117 0 [(0, .ref (z + 52))] [] S P := by
  obtain ⟨q52, q53, q54, q55, q56, q57, q58, q59, qB⟩ := id hM
  refine xw.steps 1 (fun _ => rfl) ?_
  refine xw.getf (o := 52) rfl q52 rfl ?_
  refine xw.ret rfl (fun _ => rfl) ?_
  show P (some (.int th)) S
  exact hP
set_option maxHeartbeats 1000000 in
/-- RowCodeModel.value()I -/
theorem c_mvalue (hM : MO Bk z S th sz va fu hg nu ag lo wo he go ro) (hP : ∀ S', MO Bk z S' 0 sz va fu hg nu ag lo wo he go ro → P (some (.int va)) S') : xw z NK g 140 0 [(0, .ref (z + 52))] [] S P := by
  obtain ⟨q52, q53, q54, q55, q56, q57, q58, q59, qB⟩ := id hM
  refine xw.steps 2 (fun _ => rfl) ?_
  refine xw.putf (o := 52) (fs' := [.int 0, .int sz, .ref (z + 53), .ref (z + 54), .ref (z + 55), .ref (z + 56), .int va, .int fu, .ref (z + 57), .ref (z + 58), .ref (z + 59), .int hg]) rfl q52 (Nat.le_of_ble_eq_true rfl) rfl rfl rfl ?_
  show xw z NK g 140 5 [(0, .ref (z + 52))] [] (xu S 52 (.inr (.inr (10, [.int 0, .int sz, .ref (z + 53), .ref (z + 54), .ref (z + 55), .ref (z + 56), .int va, .int fu, .ref (z + 57), .ref (z + 58), .ref (z + 59), .int hg])))) P
  refine xw.steps 1 (fun _ => rfl) ?_
  refine xw.getf (o := 52) rfl (xu_self _ _ _) rfl ?_
  refine xw.ret rfl (fun _ => rfl) ?_
  show P (some (.int va)) (xu S 52 (.inr (.inr (10, [.int 0, .int sz, .ref (z + 53), .ref (z + 54), .ref (z + 55), .ref (z + 56), .int va, .int fu, .ref (z + 57), .ref (z + 58), .ref (z + 59), .int hg]))))
  refine hP _ ⟨?_, ?_, ?_, ?_, ?_, ?_, ?_, ?_, ?_⟩
  all_goals first
    | (intro q hq; repeat rw [xu_ne _ _ (by omega)]
       exact qB q hq)
    | (simp only [xu]; simp; try assumption)
set_option maxHeartbeats 1000000 in
/-- RowCodeModel.fuel()I -/
theorem c_mfuel (hM : MO Bk z S th sz va fu hg nu ag lo wo he go ro) (hP : ∀ S', MO Bk z S' 0 sz va fu hg nu ag lo wo he go ro → P (some (.int fu)) S') : xw z NK g 141 0 [(0, .ref (z + 52))] [] S P := by
  obtain ⟨q52, q53, q54, q55, q56, q57, q58, q59, qB⟩ := id hM
  refine xw.steps 2 (fun _ => rfl) ?_
  refine xw.putf (o := 52) (fs' := [.int 0, .int sz, .ref (z + 53), .ref (z + 54), .ref (z + 55), .ref (z + 56), .int va, .int fu, .ref (z + 57), .ref (z + 58), .ref (z + 59), .int hg]) rfl q52 (Nat.le_of_ble_eq_true rfl) rfl rfl rfl ?_
  show xw z NK g 141 5 [(0, .ref (z + 52))] [] (xu S 52 (.inr (.inr (10, [.int 0, .int sz, .ref (z + 53), .ref (z + 54), .ref (z + 55), .ref (z + 56), .int va, .int fu, .ref (z + 57), .ref (z + 58), .ref (z + 59), .int hg])))) P
  refine xw.steps 1 (fun _ => rfl) ?_
  refine xw.getf (o := 52) rfl (xu_self _ _ _) rfl ?_
  refine xw.ret rfl (fun _ => rfl) ?_
  show P (some (.int fu)) (xu S 52 (.inr (.inr (10, [.int 0, .int sz, .ref (z + 53), .ref (z + 54), .ref (z + 55), .ref (z + 56), .int va, .int fu, .ref (z + 57), .ref (z + 58), .ref (z + 59), .int hg]))))
  refine hP _ ⟨?_, ?_, ?_, ?_, ?_, ?_, ?_, ?_, ?_⟩
  all_goals first
    | (intro q hq; repeat rw [xu_ne _ _ (by omega)]
       exact qB q hq)
    | (simp only [xu]; simp; try assumption)
set_option maxHeartbeats 1000000 in
/-- RowCodeModel.clear()V -/
theorem c_mclear (hM : MO Bk z S th sz va fu hg nu ag lo wo he go ro) (hP : ∀ S', MO Bk z S' 0 0 va fu hg nu ag lo wo he go ro → P none S') : xw z NK g 119 0 [(0, .ref (z + 52))] [] S P := by
  obtain ⟨q52, q53, q54, q55, q56, q57, q58, q59, qB⟩ := id hM
  refine xw.steps 2 (fun _ => rfl) ?_
  refine xw.putf (o := 52) (fs' := [.int 0, .int sz, .ref (z + 53), .ref (z + 54), .ref (z + 55), .ref (z + 56), .int va, .int fu, .ref (z + 57), .ref (z + 58), .ref (z + 59), .int hg]) rfl q52 (Nat.le_of_ble_eq_true rfl) rfl rfl rfl ?_
  show xw z NK g 119 5 [(0, .ref (z + 52))] [] (xu S 52 (.inr (.inr (10, [.int 0, .int sz, .ref (z + 53), .ref (z + 54), .ref (z + 55), .ref (z + 56), .int va, .int fu, .ref (z + 57), .ref (z + 58), .ref (z + 59), .int hg])))) P
  refine xw.steps 2 (fun _ => rfl) ?_
  refine xw.putf (o := 52) (fs' := [.int 0, .int 0, .ref (z + 53), .ref (z + 54), .ref (z + 55), .ref (z + 56), .int va, .int fu, .ref (z + 57), .ref (z + 58), .ref (z + 59), .int hg]) rfl (xu_self _ _ _) (Nat.le_of_ble_eq_true rfl) rfl rfl rfl ?_
  show xw z NK g 119 10 [(0, .ref (z + 52))] [] (xu (xu S 52 (.inr (.inr (10, [.int 0, .int sz, .ref (z + 53), .ref (z + 54), .ref (z + 55), .ref (z + 56), .int va, .int fu, .ref (z + 57), .ref (z + 58), .ref (z + 59), .int hg])))) 52 (.inr (.inr (10, [.int 0, .int 0, .ref (z + 53), .ref (z + 54), .ref (z + 55), .ref (z + 56), .int va, .int fu, .ref (z + 57), .ref (z + 58), .ref (z + 59), .int hg])))) P
  refine xw.ret rfl (fun _ => rfl) ?_
  show P none (xu (xu S 52 (.inr (.inr (10, [.int 0, .int sz, .ref (z + 53), .ref (z + 54), .ref (z + 55), .ref (z + 56), .int va, .int fu, .ref (z + 57), .ref (z + 58), .ref (z + 59), .int hg])))) 52 (.inr (.inr (10, [.int 0, .int 0, .ref (z + 53), .ref (z + 54), .ref (z + 55), .ref (z + 56), .int va, .int fu, .ref (z + 57), .ref (z + 58), .ref (z + 59), .int hg]))))
  refine hP _ ⟨?_, ?_, ?_, ?_, ?_, ?_, ?_, ?_, ?_⟩
  all_goals first
    | (intro q hq; repeat rw [xu_ne _ _ (by omega)]
       exact qB q hq)
    | (simp only [xu]; simp; try assumption)
set_option maxHeartbeats 1000000 in
/-- RowCodeModel.add(II)I -/
theorem c_madd {n : Nat} (hM : MO Bk z S th (nI n) va fu hg nu ag lo wo he go ro) (hn : n ≤ 400) {x k : Int32} (hP1 : n = 400 → ∀ S', MO Bk z S' 0 (nI n) va fu hg nu ag lo wo he go ro → P (some (.int (-1))) S') (hP : n < 400 → ∀ S', MO Bk z S' 0 (nI (n + 1)) va fu hg (upd nu n x) (upd ag n k) lo wo he go ro → P (some (.int (nI (n + 1)))) S') : xw z NK g 118 0 [(0, .ref (z + 52)), (1, .int x), (2, .int k)] [] S P := by
  obtain ⟨q52, q53, q54, q55, q56, q57, q58, q59, qB⟩ := id hM
  refine xw.steps 2 (fun _ => rfl) ?_
  refine xw.putf (o := 52) (fs' := [.int 0, .int (nI n), .ref (z + 53), .ref (z + 54), .ref (z + 55), .ref (z + 56), .int va, .int fu, .ref (z + 57), .ref (z + 58), .ref (z + 59), .int hg]) rfl q52 (Nat.le_of_ble_eq_true rfl) rfl rfl rfl ?_
  show xw z NK g 118 5 [(0, .ref (z + 52)), (1, .int x), (2, .int k)] [] (xu S 52 (.inr (.inr (10, [.int 0, .int (nI n), .ref (z + 53), .ref (z + 54), .ref (z + 55), .ref (z + 56), .int va, .int fu, .ref (z + 57), .ref (z + 58), .ref (z + 59), .int hg])))) P
  refine xw.steps 1 (fun _ => rfl) ?_
  refine xw.getf (o := 52) rfl (xu_self _ _ _) rfl ?_
  refine xw.steps 1 (fun _ => rfl) ?_
  refine xw.icmp rfl (fun c1 => ?_) (fun c1 => ?_)
  · have c1 := of_decide_eq_true c1
    refine xw.steps 1 (fun _ => rfl) ?_
    refine xw.getf (o := 52) rfl (xu_self _ _ _) rfl ?_
    refine xw.steps 1 (fun _ => rfl) ?_
    refine xw.getf (o := 52) rfl (xu_self _ _ _) rfl ?_
    refine xw.steps 1 (fun _ => rfl) ?_
    refine xw.ast (o := 53) rfl ((xu_ne _ _ (by decide)).trans q53) (nI_in (by have : n ≠ 400 := fun e => c1 (by rw [e]; rfl); omega) (by omega)) ?_
    show xw z NK g 118 27 [(0, .ref (z + 52)), (1, .int x), (2, .int k)] [] (xu (xu S 52 (.inr (.inr (10, [.int 0, .int (nI n), .ref (z + 53), .ref (z + 54), .ref (z + 55), .ref (z + 56), .int va, .int fu, .ref (z + 57), .ref (z + 58), .ref (z + 59), .int hg])))) 53 (.inr (.inl (false, 400, (upd nu (nI n).toNatClampNeg x))))) P
    refine xw.steps 1 (fun _ => rfl) ?_
    refine xw.getf (o := 52) rfl ((xu_ne _ _ (by decide)).trans (xu_self _ _ _)) rfl ?_
    refine xw.steps 1 (fun _ => rfl) ?_
    refine xw.getf (o := 52) rfl ((xu_ne _ _ (by decide)).trans (xu_self _ _ _)) rfl ?_
    refine xw.steps 1 (fun _ => rfl) ?_
    refine xw.ast (o := 54) rfl ((xu_ne _ _ (by decide)).trans ((xu_ne _ _ (by decide)).trans q54)) (nI_in (by have : n ≠ 400 := fun e => c1 (by rw [e]; rfl); omega) (by omega)) ?_
    show xw z NK g 118 37 [(0, .ref (z + 52)), (1, .int x), (2, .int k)] [] (xu (xu (xu S 52 (.inr (.inr (10, [.int 0, .int (nI n), .ref (z + 53), .ref (z + 54), .ref (z + 55), .ref (z + 56), .int va, .int fu, .ref (z + 57), .ref (z + 58), .ref (z + 59), .int hg])))) 53 (.inr (.inl (false, 400, (upd nu (nI n).toNatClampNeg x))))) 54 (.inr (.inl (false, 400, (upd ag (nI n).toNatClampNeg k))))) P
    refine xw.steps 2 (fun _ => rfl) ?_
    refine xw.getf (o := 52) rfl ((xu_ne _ _ (by decide)).trans ((xu_ne _ _ (by decide)).trans (xu_self _ _ _))) rfl ?_
    refine xw.steps 2 (fun _ => rfl) ?_
    refine xw.putf (o := 52) (fs' := [.int 0, .int ((nI n) + 1), .ref (z + 53), .ref (z + 54), .ref (z + 55), .ref (z + 56), .int va, .int fu, .ref (z + 57), .ref (z + 58), .ref (z + 59), .int hg]) rfl ((xu_ne _ _ (by decide)).trans ((xu_ne _ _ (by decide)).trans (xu_self _ _ _))) (Nat.le_of_ble_eq_true rfl) rfl rfl rfl ?_
    show xw z NK g 118 47 [(0, .ref (z + 52)), (1, .int x), (2, .int k)] [] (xu (xu (xu (xu S 52 (.inr (.inr (10, [.int 0, .int (nI n), .ref (z + 53), .ref (z + 54), .ref (z + 55), .ref (z + 56), .int va, .int fu, .ref (z + 57), .ref (z + 58), .ref (z + 59), .int hg])))) 53 (.inr (.inl (false, 400, (upd nu (nI n).toNatClampNeg x))))) 54 (.inr (.inl (false, 400, (upd ag (nI n).toNatClampNeg k))))) 52 (.inr (.inr (10, [.int 0, .int ((nI n) + 1), .ref (z + 53), .ref (z + 54), .ref (z + 55), .ref (z + 56), .int va, .int fu, .ref (z + 57), .ref (z + 58), .ref (z + 59), .int hg])))) P
    refine xw.steps 1 (fun _ => rfl) ?_
    refine xw.getf (o := 52) rfl (xu_self _ _ _) rfl ?_
    refine xw.ret rfl (fun _ => rfl) ?_
    show P (some (.int ((nI n) + 1))) (xu (xu (xu (xu S 52 (.inr (.inr (10, [.int 0, .int (nI n), .ref (z + 53), .ref (z + 54), .ref (z + 55), .ref (z + 56), .int va, .int fu, .ref (z + 57), .ref (z + 58), .ref (z + 59), .int hg])))) 53 (.inr (.inl (false, 400, (upd nu (nI n).toNatClampNeg x))))) 54 (.inr (.inl (false, 400, (upd ag (nI n).toNatClampNeg k))))) 52 (.inr (.inr (10, [.int 0, .int ((nI n) + 1), .ref (z + 53), .ref (z + 54), .ref (z + 55), .ref (z + 56), .int va, .int fu, .ref (z + 57), .ref (z + 58), .ref (z + 59), .int hg]))))
    have hn4 : n < 400 := by have : n ≠ 400 := fun e => c1 (by rw [e]; rfl); omega
    have ec : (nI n).toNatClampNeg = n := nI_clamp (by omega)
    rw [ec, nI_1]
    refine hP hn4 _ ⟨?_, ?_, ?_, ?_, ?_, ?_, ?_, ?_, ?_⟩
    all_goals first
      | (intro q hq; repeat rw [xu_ne _ _ (by omega)]
         exact qB q hq)
      | (simp only [xu]; simp; try assumption)
  · have c1 := Decidable.not_not.mp (of_decide_eq_false c1)
    refine xw.steps 1 (fun _ => rfl) ?_
    refine xw.ret rfl (fun _ => rfl) ?_
    show P (some (.int (-1))) (xu S 52 (.inr (.inr (10, [.int 0, .int (nI n), .ref (z + 53), .ref (z + 54), .ref (z + 55), .ref (z + 56), .int va, .int fu, .ref (z + 57), .ref (z + 58), .ref (z + 59), .int hg]))))
    have hn4 : n = 400 := (nI_eq (by omega) (by omega)).mp c1
    refine hP1 hn4 _ ⟨?_, ?_, ?_, ?_, ?_, ?_, ?_, ?_, ?_⟩
    all_goals first
      | (intro q hq; repeat rw [xu_ne _ _ (by omega)]
         exact qB q hq)
      | (simp only [xu]; simp; try assumption)
set_option maxHeartbeats 4000000 in
/-- RowCodeModel.place(I)I -/
theorem c_place (hM : MO Bk z S th (nI c.length) va fu hg nu ag lo wo he go ro) (hC : CO c nu ag) (hn : c.length ≤ 400) {k : Int32} (hP : P (some (.int (oI (plc c k)))) S) : xw z NK g 122 0 [(0, .ref (z + 52)), (1, .int k)] [] S P := by
  obtain ⟨q52, q53, q54, q55, q56, q57, q58, q59, qB⟩ := id hM
  have loop : ∀ (d i : Nat) (hi : i + d = c.length) (hq2 : ∀ q, q < i → ¬ (nb c q = 13 ∧ ar c q = k)) (hP : P (some (.int (oI (plc c k)))) S), xw z NK g 122 2 [(0, .ref (z + 52)), (1, .int k), (2, .int (nI i))] [] S P := by
    intro d
    induction d with
    | zero =>
      intro i hi hq2 hP
      refine xw.steps 2 (fun _ => rfl) ?_
      refine xw.getf (o := 52) rfl q52 rfl ?_
      refine xw.icmp rfl (fun c1 => ?_) (fun c1 => ?_)
      · have c1 := Int32.not_lt.mpr (of_decide_eq_true c1)
        refine xw.steps 1 (fun _ => rfl) ?_
        refine xw.ret rfl (fun _ => rfl) ?_
        show P (some (.int (-1))) S
        rw [plc_none (c := c) (k := k) (fun q hq => hq2 q (by omega))] at hP
        exact hP
      · have c1 := Int32.not_le.mp (of_decide_eq_false c1)
        show xw z NK g 122 10 [(0, .ref (z + 52)), (1, .int k), (2, .int (nI i))] [] S P
        exact absurd c1 (nI_nlt (by omega) (by omega))
    | succ d ih =>
      intro i hi hq2 hP
      refine xw.steps 2 (fun _ => rfl) ?_
      refine xw.getf (o := 52) rfl q52 rfl ?_
      refine xw.icmp rfl (fun c1 => ?_) (fun c1 => ?_)
      · have c1 := Int32.not_lt.mpr (of_decide_eq_true c1)
        show xw z NK g 122 39 [(0, .ref (z + 52)), (1, .int k), (2, .int (nI i))] [] S P
        exact absurd (nI_lt (by omega) (by omega)) c1
      · have c1 := Int32.not_le.mp (of_decide_eq_false c1)
        show xw z NK g 122 10 [(0, .ref (z + 52)), (1, .int k), (2, .int (nI i))] [] S P
        have ec : (nI i).toNatClampNeg = i := nI_clamp (by omega)
        refine xw.steps 1 (fun _ => rfl) ?_
        refine xw.getf (o := 52) rfl q52 rfl ?_
        refine xw.steps 1 (fun _ => rfl) ?_
        refine xw.ald (o := 53) rfl q53 (nI_in (by omega) (by omega)) ?_
        refine xw.steps 1 (fun _ => rfl) ?_
        refine xw.icmp rfl (fun c2 => ?_) (fun c2 => ?_)
        · have c2 := of_decide_eq_true c2
          refine xw.steps 2 (fun _ => rfl) ?_
          show xw z NK g 122 2 [(0, .ref (z + 52)), (1, .int k), (2, .int ((nI i) + 1))] [] S P
          rw [nI_1]
          exact ih (i + 1) (by omega) (fun q hq => by
            by_cases e : q = i
            · subst e; obtain ⟨a1, a2⟩ := hC q (by omega); rw [ec] at c2; exact fun w => c2 (a1.trans w.1)
            · exact hq2 q (by omega)) hP
        · have c2 := Decidable.not_not.mp (of_decide_eq_false c2)
          refine xw.steps 1 (fun _ => rfl) ?_
          refine xw.getf (o := 52) rfl q52 rfl ?_
          refine xw.steps 1 (fun _ => rfl) ?_
          refine xw.ald (o := 54) rfl q54 (nI_in (by omega) (by omega)) ?_
          refine xw.steps 1 (fun _ => rfl) ?_
          refine xw.icmp rfl (fun c3 => ?_) (fun c3 => ?_)
          · have c3 := of_decide_eq_true c3
            refine xw.steps 2 (fun _ => rfl) ?_
            show xw z NK g 122 2 [(0, .ref (z + 52)), (1, .int k), (2, .int ((nI i) + 1))] [] S P
            rw [nI_1]
            exact ih (i + 1) (by omega) (fun q hq => by
            by_cases e : q = i
            · subst e; obtain ⟨a1, a2⟩ := hC q (by omega); rw [ec] at c3; exact fun w => c3 (a2.trans w.2)
            · exact hq2 q (by omega)) hP
          · have c3 := Decidable.not_not.mp (of_decide_eq_false c3)
            refine xw.steps 1 (fun _ => rfl) ?_
            refine xw.ret rfl (fun _ => rfl) ?_
            show P (some (.int (nI i))) S
            obtain ⟨a1, a2⟩ := hC i (by omega)
            rw [ec] at c2 c3
            rw [plc_first hq2 (by omega) (a1.symm.trans c2) (a2.symm.trans c3)] at hP
            exact hP
  refine xw.steps 2 (fun _ => rfl) ?_
  show xw z NK g 122 2 [(0, .ref (z + 52)), (1, .int k), (2, .int 0)] [] S P
  exact loop c.length 0 (by omega) (fun q hq => by omega) hP
end MOD
