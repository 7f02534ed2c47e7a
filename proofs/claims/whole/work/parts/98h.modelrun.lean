/-! THE REFERENCE: build and run (walks by wip/gen98h.py) -/
theorem in_18 {c : List II} (h : ∀ i, nb c i = 18 → nb c (i + 1) = 12) : ∀ i, nb c i = 18 → i + 1 < c.length := by
  intro i w
  have h12 := h i w
  rcases Nat.lt_or_ge (i + 1) c.length with w | w
  · exact w
  · rw [nb_out w] at h12; exact absurd h12 (by decide)
section MOI
variable {Bk : xS} {z : Nat} {NK : List Nat} {g : mx_G} {P : Option Value → xS → Prop} {th va fu hg : Int32} {nu ag lo wo ro : Nat → Int32} {c : List II}
theorem mb_26 {he go : Nat → Int32} {S : xS} {D : Nat → Option Nat} (hC : CO c nu ag) (hn : c.length ≤ 400) (h1 : 0 < c.length) (hf : fitA c) (hLU : LU c) (hjp : ∀ k, goals c k → ∃ t, after c k = some t) (h18 : ∀ i, nb c i = 18 → nb c (i + 1) = 12) (hOk : OkH c D) (hSo : Sound c D) (hD : (∀ k, k < c.length → he k = oI (D k))) (hM : MO Bk z S th (nI c.length) va fu hg nu ag lo wo he go ro) (hP : ∀ he' go' S' b, MO Bk z S' th (nI c.length) va fu hg nu ag lo wo he' go' ro → (b = true ↔ Right c) → P (some (.int (bI b))) S') : xw z NK g 130 26 [(0, .ref (z + 52))] [] S P := by
  obtain ⟨q52, q53, q54, q55, q56, q57, q58, q59, qB⟩ := id hM
  refine xw.steps 1 (fun _ => rfl) ?_
  show xw z NK g 130 27 [(0, .ref (z + 52))] [.ref (z + 52)] S P
  refine xw.callO (o := 52) rfl rfl rfl q52 rfl rfl (c_spent hM hC hn (in_18 h18) (fun i hi => ?_) (fun i h e => ⟨(hSo i h e).2.1, by have := (hSo i h e).2.2; omega⟩) hD (fun go' S' b hM' hb => ?_))
  · obtain ⟨h, hh⟩ : ∃ h, D i = some h := by
      cases hv : D i with
      | none => simp [fre', hv] at hi
      | some h => exact ⟨h, rfl⟩
    exact ⟨fun j e => (hSo j _ (nx_h hOk hh e)).2.1, fun j e => (hSo j _ (gl_h hOk hh e)).2.1⟩
  show xw z NK g 130 30 [(0, .ref (z + 52))] [.int (bI b)] S' P
  refine xw.if_ rfl (fun c1 => ?_) (fun c1 => ?_)
  · have c1 := bI_eq0 (of_decide_eq_true c1)
    refine xw.steps 1 (fun _ => rfl) ?_
    refine xw.ret rfl (fun _ => rfl) ?_
    show P (some (.int 0)) S'
    exact hP he go' S' false hM' ⟨fun w => (by cases w), fun w => by
      obtain ⟨-, -, -, -, -, D', o1, o2, o3⟩ := w
      rw [ok_unique o1 o2 hOk hSo] at o3
      rw [hb.mpr o3] at c1; cases c1⟩
  · have c1 := bI_ne0 (of_decide_eq_false c1)
    refine xw.steps 2 (fun _ => rfl) ?_
    refine xw.ret rfl (fun _ => rfl) ?_
    show P (some (.int 1)) S'
    exact hP he go' S' true hM' ⟨fun _ => ⟨h1, hf, hLU, hjp, h18, D, hOk, hSo, hb.mp c1⟩, fun _ => rfl⟩
theorem mb_19 {he go : Nat → Int32} {S : xS} (hC : CO c nu ag) (hn : c.length ≤ 400) (h1 : 0 < c.length) (hf : fitA c) (hLU : LU c) (hjp : ∀ k, goals c k → ∃ t, after c k = some t) (h18 : ∀ i, nb c i = 18 → nb c (i + 1) = 12) (hM : MO Bk z S th (nI c.length) va fu hg nu ag lo wo he go ro) (hP : ∀ he' go' S' b, MO Bk z S' th (nI c.length) va fu hg nu ag lo wo he' go' ro → (b = true ↔ Right c) → P (some (.int (bI b))) S') : xw z NK g 130 19 [(0, .ref (z + 52))] [] S P := by
  obtain ⟨q52, q53, q54, q55, q56, q57, q58, q59, qB⟩ := id hM
  refine xw.steps 1 (fun _ => rfl) ?_
  show xw z NK g 130 20 [(0, .ref (z + 52))] [.ref (z + 52)] S P
  refine xw.callO (o := 52) rfl rfl rfl q52 rfl rfl (c_even hC hn (in_18 h18) (fun i hi => (hf _ (nb_mem hi)).1) h1 hM (fun he' go' S' b hM' hy hno => ?_))
  show xw z NK g 130 23 [(0, .ref (z + 52))] [.int (bI b)] S' P
  refine xw.if_ rfl (fun c1 => ?_) (fun c1 => ?_)
  · have c1 := bI_eq0 (of_decide_eq_true c1)
    refine xw.steps 1 (fun _ => rfl) ?_
    refine xw.ret rfl (fun _ => rfl) ?_
    show P (some (.int 0)) S'
    exact hP he' go' S' false hM' ⟨fun w => (by cases w), fun w => by
      obtain ⟨-, -, -, -, -, D', o1, -⟩ := w
      exact absurd ⟨D', o1⟩ (hno c1)⟩
  · have c1 := bI_ne0 (of_decide_eq_false c1)
    show xw z NK g 130 26 [(0, .ref (z + 52))] [] S' P
    obtain ⟨D, o1, o2, o3⟩ := hy c1
    exact mb_26 hC hn h1 hf hLU hjp h18 o1 o2 o3 hM' hP
theorem mb_5 {he go : Nat → Int32} {S : xS} (hC : CO c nu ag) (hn : c.length ≤ 400) (hM : MO Bk z S th (nI c.length) va fu hg nu ag lo wo he go ro) (hP : ∀ he' go' S' b, MO Bk z S' th (nI c.length) va fu hg nu ag lo wo he' go' ro → (b = true ↔ Right c) → P (some (.int (bI b))) S') : xw z NK g 130 5 [(0, .ref (z + 52))] [] S P := by
  obtain ⟨q52, q53, q54, q55, q56, q57, q58, q59, qB⟩ := id hM
  refine xw.steps 1 (fun _ => rfl) ?_
  refine xw.getf (o := 52) rfl q52 rfl ?_
  refine xw.if_ rfl (fun c1 => ?_) (fun c1 => ?_)
  · have c1 := Int32.not_lt.mpr (of_decide_eq_true c1)
    refine xw.steps 1 (fun _ => rfl) ?_
    refine xw.ret rfl (fun _ => rfl) ?_
    show P (some (.int 0)) S
    exact hP he go S false hM ⟨fun w => (by cases w), fun w => absurd (nI_lt (a := 0) w.1 (by omega)) c1⟩
  · have c1 := Int32.not_le.mp (of_decide_eq_false c1)
    refine xw.steps 1 (fun _ => rfl) ?_
    show xw z NK g 130 13 [(0, .ref (z + 52))] [.ref (z + 52)] S P
    have h1 : 0 < c.length := by
      rcases Nat.eq_zero_or_pos c.length with w | w
      · rw [w] at c1; exact absurd c1 (by decide)
      · exact w
    refine xw.callO (o := 52) rfl rfl rfl q52 rfl rfl (c_said hM hC hn (fun b hb => ?_))
    rw [said_iff hn] at hb
    show xw z NK g 130 16 [(0, .ref (z + 52))] [.int (bI b)] S P
    refine xw.if_ rfl (fun c2 => ?_) (fun c2 => ?_)
    · have c2 := bI_eq0 (of_decide_eq_true c2)
      refine xw.steps 1 (fun _ => rfl) ?_
      refine xw.ret rfl (fun _ => rfl) ?_
      show P (some (.int 0)) S
      exact hP he go S false hM ⟨fun w => (by cases w), fun w => by
        obtain ⟨-, hf, hLU, hjp, h18, -⟩ := w
        rw [hb.mpr ⟨hf, hLU, hjp, h18⟩] at c2; cases c2⟩
    · have c2 := bI_ne0 (of_decide_eq_false c2)
      show xw z NK g 130 19 [(0, .ref (z + 52))] [] S P
      obtain ⟨hf, hLU, hjp, h18⟩ := hb.mp c2
      exact mb_19 hC hn h1 hf hLU hjp h18 hM hP
theorem c_mbuild {he go : Nat → Int32} {S : xS} (hC : CO c nu ag) (hn : c.length ≤ 400) (hM : MO Bk z S th (nI c.length) va fu hg nu ag lo wo he go ro) (hP : ∀ he' go' S' b, MO Bk z S' 0 (nI c.length) va fu hg nu ag lo wo he' go' ro → (b = true ↔ Right c) → P (some (.int (bI b))) S') : xw z NK g 130 0 [(0, .ref (z + 52))] [] S P := by
  obtain ⟨q52, q53, q54, q55, q56, q57, q58, q59, qB⟩ := id hM
  refine xw.steps 2 (fun _ => rfl) ?_
  refine xw.putf (o := 52) (fs' := [.int 0, .int (nI c.length), .ref (z + 53), .ref (z + 54), .ref (z + 55), .ref (z + 56), .int va, .int fu, .ref (z + 57), .ref (z + 58), .ref (z + 59), .int hg]) rfl q52 (Nat.le_of_ble_eq_true rfl) rfl rfl rfl ?_
  show xw z NK g 130 5 [(0, .ref (z + 52))] [] (xu S 52 (.inr (.inr (10, [.int 0, .int (nI c.length), .ref (z + 53), .ref (z + 54), .ref (z + 55), .ref (z + 56), .int va, .int fu, .ref (z + 57), .ref (z + 58), .ref (z + 59), .int hg])))) P
  show xw z NK g 130 5 [(0, .ref (z + 52))] [] (xu S 52 (.inr (.inr (10, [.int 0, .int (nI c.length), .ref (z + 53), .ref (z + 54), .ref (z + 55), .ref (z + 56), .int va, .int fu, .ref (z + 57), .ref (z + 58), .ref (z + 59), .int hg])))) P
  refine mb_5 (Bk := Bk) (va := va) (fu := fu) (hg := hg) (lo := lo) (wo := wo) (ro := ro) (he := he) (go := go) (th := 0) hC hn ?_ hP
  refine ⟨?_, ?_, ?_, ?_, ?_, ?_, ?_, ?_, ?_⟩
  all_goals first
    | (intro q hq; repeat rw [xu_ne _ _ (by omega)]
       exact qB q hq)
    | (simp only [xu]; simp; try assumption)
theorem mr_25 {w_ : Int32} {he go : Nat → Int32} {S : xS} {D : Nat → Option Nat} {n : Nat} {R : Rz} {st : Nat → Int32} (hC : CO c nu ag) (hn : c.length ≤ 400) (hf : fitA c) (hLU : LU c) (hjp : ∀ k, goals c k → ∃ t, after c k = some t) (h18 : ∀ i, nb c i = 18 → nb c (i + 1) = 12) (hOk : OkH c D) (hSo : Sound c D) (hF : fk (Lv c n) c bot (st, none, lo, wo, w_) = some R) (hM : MO Bk z S th (nI c.length) va fu hg nu ag lo wo he go ro) (hP : ∀ he' go' hg' ro' S', MO Bk z S' th (nI c.length) R.2.1 R.2.2.1 hg' nu ag R.2.2.2.1 R.2.2.2.2 he' go' ro' → P (some (.int R.1)) S') : xw z NK g 139 25 [(0, .ref (z + 52)), (1, .int w_)] [] S P := by
  obtain ⟨q52, q53, q54, q55, q56, q57, q58, q59, qB⟩ := id hM
  refine xw.steps 2 (fun _ => rfl) ?_
  refine xw.putf (o := 52) (fs' := [.int th, .int (nI c.length), .ref (z + 53), .ref (z + 54), .ref (z + 55), .ref (z + 56), .int va, .int fu, .ref (z + 57), .ref (z + 58), .ref (z + 59), .int 0]) rfl q52 (Nat.le_of_ble_eq_true rfl) rfl rfl rfl ?_
  show xw z NK g 139 30 [(0, .ref (z + 52)), (1, .int w_)] [] (xu S 52 (.inr (.inr (10, [.int th, .int (nI c.length), .ref (z + 53), .ref (z + 54), .ref (z + 55), .ref (z + 56), .int va, .int fu, .ref (z + 57), .ref (z + 58), .ref (z + 59), .int 0])))) P
  refine xw.steps 2 (fun _ => rfl) ?_
  refine xw.putf (o := 52) (fs' := [.int th, .int (nI c.length), .ref (z + 53), .ref (z + 54), .ref (z + 55), .ref (z + 56), .int va, .int w_, .ref (z + 57), .ref (z + 58), .ref (z + 59), .int 0]) rfl (xu_self _ _ _) (Nat.le_of_ble_eq_true rfl) rfl rfl rfl ?_
  show xw z NK g 139 35 [(0, .ref (z + 52)), (1, .int w_)] [] (xu (xu S 52 (.inr (.inr (10, [.int th, .int (nI c.length), .ref (z + 53), .ref (z + 54), .ref (z + 55), .ref (z + 56), .int va, .int fu, .ref (z + 57), .ref (z + 58), .ref (z + 59), .int 0])))) 52 (.inr (.inr (10, [.int th, .int (nI c.length), .ref (z + 53), .ref (z + 54), .ref (z + 55), .ref (z + 56), .int va, .int w_, .ref (z + 57), .ref (z + 58), .ref (z + 59), .int 0])))) P
  refine xw.steps 2 (fun _ => rfl) ?_
  refine xw.putf (o := 52) (fs' := [.int th, .int (nI c.length), .ref (z + 53), .ref (z + 54), .ref (z + 55), .ref (z + 56), .int 0, .int w_, .ref (z + 57), .ref (z + 58), .ref (z + 59), .int 0]) rfl (xu_self _ _ _) (Nat.le_of_ble_eq_true rfl) rfl rfl rfl ?_
  show xw z NK g 139 40 [(0, .ref (z + 52)), (1, .int w_)] [] (xu (xu (xu S 52 (.inr (.inr (10, [.int th, .int (nI c.length), .ref (z + 53), .ref (z + 54), .ref (z + 55), .ref (z + 56), .int va, .int fu, .ref (z + 57), .ref (z + 58), .ref (z + 59), .int 0])))) 52 (.inr (.inr (10, [.int th, .int (nI c.length), .ref (z + 53), .ref (z + 54), .ref (z + 55), .ref (z + 56), .int va, .int w_, .ref (z + 57), .ref (z + 58), .ref (z + 59), .int 0])))) 52 (.inr (.inr (10, [.int th, .int (nI c.length), .ref (z + 53), .ref (z + 54), .ref (z + 55), .ref (z + 56), .int 0, .int w_, .ref (z + 57), .ref (z + 58), .ref (z + 59), .int 0])))) P
  refine xw.steps 2 (fun _ => rfl) ?_
  show xw z NK g 139 42 [(0, .ref (z + 52)), (1, .int w_), (2, .int 0)] [] (xu (xu (xu S 52 (.inr (.inr (10, [.int th, .int (nI c.length), .ref (z + 53), .ref (z + 54), .ref (z + 55), .ref (z + 56), .int va, .int fu, .ref (z + 57), .ref (z + 58), .ref (z + 59), .int 0])))) 52 (.inr (.inr (10, [.int th, .int (nI c.length), .ref (z + 53), .ref (z + 54), .ref (z + 55), .ref (z + 56), .int va, .int w_, .ref (z + 57), .ref (z + 58), .ref (z + 59), .int 0])))) 52 (.inr (.inr (10, [.int th, .int (nI c.length), .ref (z + 53), .ref (z + 54), .ref (z + 55), .ref (z + 56), .int 0, .int w_, .ref (z + 57), .ref (z + 58), .ref (z + 59), .int 0])))) P
  refine mloop (D := D) (he := he) (go := go) (th := th) hC hn hf hLU hjp h18 hOk hSo n c.length 0 0 st lo wo ro w_ _ R (by omega) hOk.1 (fun j hj => absurd hj (by omega)) ?_ hF (fun S' hg' ro' hM' => hP _ _ _ _ _ hM')
  refine ⟨?_, ?_, ?_, ?_, ?_, ?_, ?_, ?_, ?_⟩
  all_goals first
    | (intro q hq; repeat rw [xu_ne _ _ (by omega)]
       exact qB q hq)
    | (simp only [xu]; simp; try first | rfl | assumption)
theorem mr_no {w_ : Int32} {he go : Nat → Int32} {S : xS} (hC : CO c nu ag) (hn : c.length ≤ 400) (hno : (w_ < 0 ∨ 20000 < w_ ∨ ¬ Right c)) (hM : MO Bk z S 0 (nI c.length) va fu hg nu ag lo wo he go ro) (hP : ∀ he' go' S', MO Bk z S' 0 (nI c.length) va fu hg nu ag lo wo he' go' ro → P (some (.int (-1))) S') : xw z NK g 139 5 [(0, .ref (z + 52)), (1, .int w_)] [] S P := by
  obtain ⟨q52, q53, q54, q55, q56, q57, q58, q59, qB⟩ := id hM
  refine xw.steps 3 (fun _ => rfl) ?_
  show xw z NK g 139 10 [(0, .ref (z + 52)), (1, .int w_)] [.int 20000, .int 0, .int w_] S P
  refine xw.callS rfl rfl rfl rfl rfl (c_in ?_)
  show xw z NK g 139 13 [(0, .ref (z + 52)), (1, .int w_)] [.int (bI (decide (¬ w_ < 0 ∧ ¬ 20000 < w_)))] S P
  refine xw.if_ rfl (fun c1 => ?_) (fun c1 => ?_)
  · have c1 := bI_eq0 (of_decide_eq_true c1)
    refine xw.steps 1 (fun _ => rfl) ?_
    refine xw.ret rfl (fun _ => rfl) ?_
    show P (some (.int (-1))) S
    exact hP he go S hM
  · have c1 := bI_ne0 (of_decide_eq_false c1)
    refine xw.steps 1 (fun _ => rfl) ?_
    show xw z NK g 139 17 [(0, .ref (z + 52)), (1, .int w_)] [.ref (z + 52)] S P
    refine xw.callO (o := 52) rfl rfl rfl q52 rfl rfl (c_mbuild hC hn hM (fun he' go' S' b hM' hb => ?_))
    show xw z NK g 139 20 [(0, .ref (z + 52)), (1, .int w_)] [.int (bI b)] S' P
    refine xw.if_ rfl (fun c2 => ?_) (fun c2 => ?_)
    · have c2 := bI_ne0 (of_decide_eq_true c2)
      show xw z NK g 139 25 [(0, .ref (z + 52)), (1, .int w_)] [] S' P
      have hin := of_decide_eq_true c1
      exact absurd hno (fun w => w.elim hin.1 (fun w => w.elim hin.2 (fun w => w (hb.mp c2))))
    · have c2 := bI_eq0 (Decidable.not_not.mp (of_decide_eq_false c2))
      refine xw.steps 1 (fun _ => rfl) ?_
      refine xw.ret rfl (fun _ => rfl) ?_
      show P (some (.int (-1))) S'
      exact hP he' go' S' hM'
theorem mr_yes {w_ : Int32} {he go : Nat → Int32} {S : xS} {n : Nat} {R : Rz} {st : Nat → Int32} (hC : CO c nu ag) (hn : c.length ≤ 400) (hin : ¬ w_ < 0 ∧ ¬ 20000 < w_) (hR : Right c) (hF : fk (Lv c n) c bot (st, none, lo, wo, w_) = some R) (hM : MO Bk z S 0 (nI c.length) va fu hg nu ag lo wo he go ro) (hP : ∀ he' go' hg' ro' S', MO Bk z S' 0 (nI c.length) R.2.1 R.2.2.1 hg' nu ag R.2.2.2.1 R.2.2.2.2 he' go' ro' → P (some (.int R.1)) S') : xw z NK g 139 5 [(0, .ref (z + 52)), (1, .int w_)] [] S P := by
  obtain ⟨q52, q53, q54, q55, q56, q57, q58, q59, qB⟩ := id hM
  refine xw.steps 3 (fun _ => rfl) ?_
  show xw z NK g 139 10 [(0, .ref (z + 52)), (1, .int w_)] [.int 20000, .int 0, .int w_] S P
  refine xw.callS rfl rfl rfl rfl rfl (c_in ?_)
  show xw z NK g 139 13 [(0, .ref (z + 52)), (1, .int w_)] [.int (bI (decide (¬ w_ < 0 ∧ ¬ 20000 < w_)))] S P
  refine xw.if_ rfl (fun c1 => ?_) (fun c1 => ?_)
  · have c1 := bI_eq0 (of_decide_eq_true c1)
    refine xw.steps 1 (fun _ => rfl) ?_
    refine xw.ret rfl (fun _ => rfl) ?_
    show P (some (.int (-1))) S
    rw [decide_eq_true hin] at c1; cases c1
  · have c1 := bI_ne0 (of_decide_eq_false c1)
    refine xw.steps 1 (fun _ => rfl) ?_
    show xw z NK g 139 17 [(0, .ref (z + 52)), (1, .int w_)] [.ref (z + 52)] S P
    refine xw.callO (o := 52) rfl rfl rfl q52 rfl rfl (c_mbuild hC hn hM (fun he' go' S' b hM' hb => ?_))
    show xw z NK g 139 20 [(0, .ref (z + 52)), (1, .int w_)] [.int (bI b)] S' P
    refine xw.if_ rfl (fun c2 => ?_) (fun c2 => ?_)
    · have c2 := bI_ne0 (of_decide_eq_true c2)
      show xw z NK g 139 25 [(0, .ref (z + 52)), (1, .int w_)] [] S' P
      obtain ⟨h1, hf, hLU, hjp, h18, D, o1, o2, -⟩ := hR
      exact mr_25 hC hn hf hLU hjp h18 o1 o2 hF hM' hP
    · have c2 := bI_eq0 (Decidable.not_not.mp (of_decide_eq_false c2))
      refine xw.steps 1 (fun _ => rfl) ?_
      refine xw.ret rfl (fun _ => rfl) ?_
      show P (some (.int (-1))) S'
      rw [hb.mpr hR] at c2; cases c2
theorem c_mrun_no {w_ : Int32} {he go : Nat → Int32} {S : xS} (hC : CO c nu ag) (hn : c.length ≤ 400) (hno : (w_ < 0 ∨ 20000 < w_ ∨ ¬ Right c)) (hM : MO Bk z S th (nI c.length) va fu hg nu ag lo wo he go ro) (hP : ∀ he' go' S', MO Bk z S' 0 (nI c.length) va fu hg nu ag lo wo he' go' ro → P (some (.int (-1))) S') : xw z NK g 139 0 [(0, .ref (z + 52)), (1, .int w_)] [] S P := by
  obtain ⟨q52, q53, q54, q55, q56, q57, q58, q59, qB⟩ := id hM
  refine xw.steps 2 (fun _ => rfl) ?_
  refine xw.putf (o := 52) (fs' := [.int 0, .int (nI c.length), .ref (z + 53), .ref (z + 54), .ref (z + 55), .ref (z + 56), .int va, .int fu, .ref (z + 57), .ref (z + 58), .ref (z + 59), .int hg]) rfl q52 (Nat.le_of_ble_eq_true rfl) rfl rfl rfl ?_
  show xw z NK g 139 5 [(0, .ref (z + 52)), (1, .int w_)] [] (xu S 52 (.inr (.inr (10, [.int 0, .int (nI c.length), .ref (z + 53), .ref (z + 54), .ref (z + 55), .ref (z + 56), .int va, .int fu, .ref (z + 57), .ref (z + 58), .ref (z + 59), .int hg])))) P
  show xw z NK g 139 5 [(0, .ref (z + 52)), (1, .int w_)] [] (xu S 52 (.inr (.inr (10, [.int 0, .int (nI c.length), .ref (z + 53), .ref (z + 54), .ref (z + 55), .ref (z + 56), .int va, .int fu, .ref (z + 57), .ref (z + 58), .ref (z + 59), .int hg])))) P
  refine mr_no (Bk := Bk) (va := va) (fu := fu) (hg := hg) (lo := lo) (wo := wo) (ro := ro) (he := he) (go := go) hC hn hno ?_ hP
  refine ⟨?_, ?_, ?_, ?_, ?_, ?_, ?_, ?_, ?_⟩
  all_goals first
    | (intro q hq; repeat rw [xu_ne _ _ (by omega)]
       exact qB q hq)
    | (simp only [xu]; simp; try assumption)
theorem c_mrun_yes {w_ : Int32} {he go : Nat → Int32} {S : xS} {n : Nat} {R : Rz} {st : Nat → Int32} (hC : CO c nu ag) (hn : c.length ≤ 400) (hin : ¬ w_ < 0 ∧ ¬ 20000 < w_) (hR : Right c) (hF : fk (Lv c n) c bot (st, none, lo, wo, w_) = some R) (hM : MO Bk z S th (nI c.length) va fu hg nu ag lo wo he go ro) (hP : ∀ he' go' hg' ro' S', MO Bk z S' 0 (nI c.length) R.2.1 R.2.2.1 hg' nu ag R.2.2.2.1 R.2.2.2.2 he' go' ro' → P (some (.int R.1)) S') : xw z NK g 139 0 [(0, .ref (z + 52)), (1, .int w_)] [] S P := by
  obtain ⟨q52, q53, q54, q55, q56, q57, q58, q59, qB⟩ := id hM
  refine xw.steps 2 (fun _ => rfl) ?_
  refine xw.putf (o := 52) (fs' := [.int 0, .int (nI c.length), .ref (z + 53), .ref (z + 54), .ref (z + 55), .ref (z + 56), .int va, .int fu, .ref (z + 57), .ref (z + 58), .ref (z + 59), .int hg]) rfl q52 (Nat.le_of_ble_eq_true rfl) rfl rfl rfl ?_
  show xw z NK g 139 5 [(0, .ref (z + 52)), (1, .int w_)] [] (xu S 52 (.inr (.inr (10, [.int 0, .int (nI c.length), .ref (z + 53), .ref (z + 54), .ref (z + 55), .ref (z + 56), .int va, .int fu, .ref (z + 57), .ref (z + 58), .ref (z + 59), .int hg])))) P
  show xw z NK g 139 5 [(0, .ref (z + 52)), (1, .int w_)] [] (xu S 52 (.inr (.inr (10, [.int 0, .int (nI c.length), .ref (z + 53), .ref (z + 54), .ref (z + 55), .ref (z + 56), .int va, .int fu, .ref (z + 57), .ref (z + 58), .ref (z + 59), .int hg])))) P
  refine mr_yes (Bk := Bk) (he := he) (go := go) (va := va) (fu := fu) (hg := hg) (ro := ro) hC hn hin hR hF ?_ hP
  refine ⟨?_, ?_, ?_, ?_, ?_, ?_, ?_, ?_, ?_⟩
  all_goals first
    | (intro q hq; repeat rw [xu_ne _ _ (by omega)]
       exact qB q hq)
    | (simp only [xu]; simp; try assumption)
end MOI
