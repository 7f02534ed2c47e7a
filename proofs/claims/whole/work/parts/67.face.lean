/-! ROWCODE: its own methods (walks by wip/gen67.py) -/
section FACE
variable {Bk : xS} {z : Nat} {NK : List Nat} {g : mx_G} {S : xS} {P : Option Value → xS → Prop} {xs ys pj ds cm wt pl us fs ga ns as : List Int32} {jd rt ld : Int32} {t : TT} {gg : GG} {m : MM}
theorem OS_fg (hO : OS Bk z S xs ys pj ds cm wt jd rt pl us fs ga ns as t gg m ld) : OS Bk z (xu (xu S 6 (.inr (.inr (3, [.ref (z + 1), .ref (z + 7), .ref (z + 9), .ref (z + 11), .ref (z + 13), .int 0, .int rt])))) 0 (.inr (.inr (9, [.ref (z + 1), .ref (z + 6), .ref (z + 15), .ref (z + 30), .ref (z + 37), .ref (z + 44), .ref (z + 47), .int 0])))) xs ys pj ds cm wt 0 rt pl us fs ga ns as t gg m 0 := by
  obtain ⟨h0, ⟨j1, j2, j4, j6, j7, j9, j11, j13⟩, ⟨i15, i16, i18, i20, i21, i23, i25, i26, i28⟩, h30, h31, h33, h35, ⟨g37, g38, g40, g42⟩, h44, h48, h45, h46, h47, hBk⟩ := hO
  refine ⟨xu_self .., ⟨?_, ?_, ?_, ?_, ?_, ?_, ?_, ?_⟩, ⟨?_, ?_, ?_, ?_, ?_, ?_, ?_, ?_, ?_⟩, ?_, ?_, ?_, ?_, ⟨?_, ?_, ?_, ?_⟩, ?_, ?_, ?_, ?_, ?_, ?_⟩
  all_goals first
    | (intro q hq; repeat rw [xu_ne _ _ (by omega)]
       exact hBk q hq)
    | (simp only [xu]; simp; try assumption)
theorem OS_code (hO : OS Bk z S xs ys pj ds cm wt jd rt pl us fs ga ns as t gg m ld) (xs' ys' : List Int32) : OS Bk z (xu (xu S 2 (.inl xs')) 4 (.inl ys')) xs' ys' pj ds cm wt jd rt pl us fs ga ns as t gg m ld := by
  obtain ⟨h0, ⟨j1, j2, j4, j6, j7, j9, j11, j13⟩, ⟨i15, i16, i18, i20, i21, i23, i25, i26, i28⟩, h30, h31, h33, h35, ⟨g37, g38, g40, g42⟩, h44, h48, h45, h46, h47, hBk⟩ := hO
  refine ⟨?_, ⟨?_, ?_, ?_, ?_, ?_, ?_, ?_, ?_⟩, ⟨?_, ?_, ?_, ?_, ?_, ?_, ?_, ?_, ?_⟩, ?_, ?_, ?_, ?_, ⟨?_, ?_, ?_, ?_⟩, ?_, ?_, ?_, ?_, ?_, ?_⟩
  all_goals first
    | (intro q hq; repeat rw [xu_ne _ _ (by omega)]
       exact hBk q hq)
    | (simp only [xu]; simp; try assumption)
theorem OS_mem (hO : OS Bk z S xs ys pj ds cm wt jd rt pl us fs ga ns as t gg m ld) (L V : Nat → Int32) : OS Bk z (xu (xu S 45 (.inr (.inl (false, 16, L)))) 46 (.inr (.inl (false, 64, V)))) xs ys pj ds cm wt jd rt pl us fs ga ns as t gg (m.1, m.2.1, m.2.2.1, m.2.2.2.1, m.2.2.2.2.1, m.2.2.2.2.2.1, m.2.2.2.2.2.2.1, L, V) ld := by
  obtain ⟨h0, ⟨j1, j2, j4, j6, j7, j9, j11, j13⟩, ⟨i15, i16, i18, i20, i21, i23, i25, i26, i28⟩, h30, h31, h33, h35, ⟨g37, g38, g40, g42⟩, h44, h48, h45, h46, h47, hBk⟩ := hO
  refine ⟨?_, ⟨?_, ?_, ?_, ?_, ?_, ?_, ?_, ?_⟩, ⟨?_, ?_, ?_, ?_, ?_, ?_, ?_, ?_, ?_⟩, ?_, ?_, ?_, ?_, ⟨?_, ?_, ?_, ?_⟩, ?_, ?_, ?_, ?_, ?_, ?_⟩
  all_goals first
    | (intro q hq; repeat rw [xu_ne _ _ (by omega)]
       exact hBk q hq)
    | (simp only [xu]; simp; try assumption)
set_option maxHeartbeats 1000000 in
/-- RowCode.forgetWork()V -/
theorem c_fgt (hO : OS Bk z S xs ys pj ds cm wt jd rt pl us fs ga ns as t gg m ld) (hP : ∀ S', OS Bk z S' xs ys pj ds cm wt 0 rt pl us fs ga ns as t gg m 0 → P none S') : xw z NK g 112 0 [(0, .ref (z + 0))] [] S P := by
  obtain ⟨h0, ⟨j1, j2, j4, j6, j7, j9, j11, j13⟩, ⟨i15, i16, i18, i20, i21, i23, i25, i26, i28⟩, h30, h31, h33, h35, ⟨g37, g38, g40, g42⟩, h44, h48, h45, h46, h47, hBk⟩ := id hO
  refine xw.steps 1 (fun _ => rfl) ?_
  refine xw.getf (o := 0) rfl h0 rfl ?_
  show xw z NK g 112 4 [(0, .ref (z + 0))] [.ref (z + 6)] S P
  refine xw.callO (o := 6) rfl rfl rfl j6 rfl rfl (c_forget ⟨j1, j2, j4, j6, j7, j9, j11, j13⟩ ?_)
  show xw z NK g 112 7 [(0, .ref (z + 0))] [] (xu S 6 (.inr (.inr (3, [.ref (z + 1), .ref (z + 7), .ref (z + 9), .ref (z + 11), .ref (z + 13), .int 0, .int rt])))) P
  refine xw.steps 2 (fun _ => rfl) ?_
  refine xw.putf (o := 0) (fs' := [.ref (z + 1), .ref (z + 6), .ref (z + 15), .ref (z + 30), .ref (z + 37), .ref (z + 44), .ref (z + 47), .int 0]) rfl ((xu_ne _ _ (by decide)).trans h0) (Nat.le_of_ble_eq_true rfl) rfl rfl rfl ?_
  show xw z NK g 112 12 [(0, .ref (z + 0))] [] (xu (xu S 6 (.inr (.inr (3, [.ref (z + 1), .ref (z + 7), .ref (z + 9), .ref (z + 11), .ref (z + 13), .int 0, .int rt])))) 0 (.inr (.inr (9, [.ref (z + 1), .ref (z + 6), .ref (z + 15), .ref (z + 30), .ref (z + 37), .ref (z + 44), .ref (z + 47), .int 0])))) P
  refine xw.ret rfl (fun _ => rfl) ?_
  show P none (xu (xu S 6 (.inr (.inr (3, [.ref (z + 1), .ref (z + 7), .ref (z + 9), .ref (z + 11), .ref (z + 13), .int 0, .int rt])))) 0 (.inr (.inr (9, [.ref (z + 1), .ref (z + 6), .ref (z + 15), .ref (z + 30), .ref (z + 37), .ref (z + 44), .ref (z + 47), .int 0]))))
  exact hP _ (OS_fg hO)
set_option maxHeartbeats 1000000 in
/-- RowCode.add(II)I -/
theorem c_add (hO : OS Bk z S xs ys pj ds cm wt jd rt pl us fs ga ns as t gg m ld) (hb : xs.length ≤ 400) (hb2 : ys.length = xs.length) {n k : Int32} (hP1 : ¬ xs.length < 400 → P (some (.int (-1))) S) (hP : xs.length < 400 → ∀ S', OS Bk z S' (xs ++ [n]) (ys ++ [k]) pj ds cm wt 0 rt pl us fs ga ns as t gg m 0 → P (some (.int (nI (xs.length + 1)))) S') : xw z NK g 104 0 [(0, .ref (z + 0)), (1, .int n), (2, .int k)] [] S P := by
  obtain ⟨h0, ⟨j1, j2, j4, j6, j7, j9, j11, j13⟩, ⟨i15, i16, i18, i20, i21, i23, i25, i26, i28⟩, h30, h31, h33, h35, ⟨g37, g38, g40, g42⟩, h44, h48, h45, h46, h47, hBk⟩ := id hO
  refine xw.steps 1 (fun _ => rfl) ?_
  refine xw.getf (o := 0) rfl h0 rfl ?_
  show xw z NK g 104 4 [(0, .ref (z + 0)), (1, .int n), (2, .int k)] [.ref (z + 1)] S P
  refine xw.callO (o := 1) rfl rfl rfl j1 rfl rfl (c_Code_size j1 j2 j4 (by decide) ?_)
  show xw z NK g 104 7 [(0, .ref (z + 0)), (1, .int n), (2, .int k)] [.int (nI xs.length)] S P
  refine xw.steps 1 (fun _ => rfl) ?_
  refine xw.icmp rfl (fun c1 => ?_) (fun c1 => ?_)
  · have c1 := of_decide_eq_true c1
    refine xw.steps 1 (fun _ => rfl) ?_
    refine xw.getf (o := 0) rfl h0 rfl ?_
    refine xw.steps 2 (fun _ => rfl) ?_
    show xw z NK g 104 21 [(0, .ref (z + 0)), (1, .int n), (2, .int k)] [.int k, .int n, .ref (z + 1)] S P
    refine xw.callO (o := 1) rfl rfl rfl j1 rfl rfl (c_Code_append j1 j2 j4 (by decide) (by omega) (by omega) ?_)
    show xw z NK g 104 24 [(0, .ref (z + 0)), (1, .int n), (2, .int k)] [] (xu (xu S 2 (.inl (xs ++ [n]))) 4 (.inl (ys ++ [k]))) P
    refine xw.steps 1 (fun _ => rfl) ?_
    show xw z NK g 104 25 [(0, .ref (z + 0)), (1, .int n), (2, .int k)] [.ref (z + 0)] (xu (xu S 2 (.inl (xs ++ [n]))) 4 (.inl (ys ++ [k]))) P
    refine xw.callO (o := 0) rfl rfl rfl ((xu_ne _ _ (by decide)).trans ((xu_ne _ _ (by decide)).trans h0)) rfl rfl (c_fgt (OS_code hO (xs ++ [n]) (ys ++ [k])) ?_)
    intro S2 hO2
    obtain ⟨h02, ⟨j12, j22, j42, j62, j72, j92, j112, j132⟩, ⟨i152, i162, i182, i202, i212, i232, i252, i262, i282⟩, h302, h312, h332, h352, ⟨g372, g382, g402, g422⟩, h442, h482, h452, h462, h472, hBk2⟩ := id hO2
    show xw z NK g 104 28 [(0, .ref (z + 0)), (1, .int n), (2, .int k)] [] S2 P
    refine xw.steps 1 (fun _ => rfl) ?_
    refine xw.getf (o := 0) rfl h02 rfl ?_
    show xw z NK g 104 32 [(0, .ref (z + 0)), (1, .int n), (2, .int k)] [.ref (z + 1)] S2 P
    refine xw.callO (o := 1) rfl rfl rfl j12 rfl rfl (c_Code_size j12 j22 j42 (by decide) ?_)
    show xw z NK g 104 35 [(0, .ref (z + 0)), (1, .int n), (2, .int k)] [.int (nI (xs ++ [n]).length)] S2 P
    refine xw.ret rfl (fun _ => rfl) ?_
    show P (some (.int (nI (xs ++ [n]).length))) S2
    rw [List.length_append]
    exact hP ((nI_ltI (by omega) (by omega) (b := 400)).mp c1) S2 hO2
  · have c1 := of_decide_eq_false c1
    refine xw.steps 1 (fun _ => rfl) ?_
    refine xw.ret rfl (fun _ => rfl) ?_
    show P (some (.int (-1))) S
    exact hP1 (fun w => absurd (nI_lt (b := 400) w (by omega)) c1)
set_option maxHeartbeats 1000000 in
/-- RowCode.clear()V -/
theorem c_clear (hO : OS Bk z S xs ys pj ds cm wt jd rt pl us fs ga ns as t gg m ld) (hP : ∀ S', OS Bk z S' [] [] pj ds cm wt 0 rt pl us fs ga ns as t gg m 0 → P none S') : xw z NK g 105 0 [(0, .ref (z + 0))] [] S P := by
  obtain ⟨h0, ⟨j1, j2, j4, j6, j7, j9, j11, j13⟩, ⟨i15, i16, i18, i20, i21, i23, i25, i26, i28⟩, h30, h31, h33, h35, ⟨g37, g38, g40, g42⟩, h44, h48, h45, h46, h47, hBk⟩ := id hO
  refine xw.steps 1 (fun _ => rfl) ?_
  refine xw.getf (o := 0) rfl h0 rfl ?_
  refine xw.steps 1 (fun _ => rfl) ?_
  show xw z NK g 105 5 [(0, .ref (z + 0))] [.int 0, .ref (z + 1)] S P
  refine xw.callO (o := 1) rfl rfl rfl j1 rfl rfl (c_Code_cutTo j1 j2 j4 (by decide) ?_)
  show xw z NK g 105 8 [(0, .ref (z + 0))] [] (xu (xu S 2 (.inl (nCut xs 0))) 4 (.inl (nCut ys 0))) P
  refine xw.steps 1 (fun _ => rfl) ?_
  show xw z NK g 105 9 [(0, .ref (z + 0))] [.ref (z + 0)] (xu (xu S 2 (.inl (nCut xs 0))) 4 (.inl (nCut ys 0))) P
  refine xw.callO (o := 0) rfl rfl rfl ((xu_ne _ _ (by decide)).trans ((xu_ne _ _ (by decide)).trans h0)) rfl rfl (c_fgt (OS_code hO (nCut xs 0) (nCut ys 0)) ?_)
  intro S2 hO2
  obtain ⟨h02, ⟨j12, j22, j42, j62, j72, j92, j112, j132⟩, ⟨i152, i162, i182, i202, i212, i232, i252, i262, i282⟩, h302, h312, h332, h352, ⟨g372, g382, g402, g422⟩, h442, h482, h452, h462, h472, hBk2⟩ := id hO2
  show xw z NK g 105 12 [(0, .ref (z + 0))] [] S2 P
  refine xw.ret rfl (fun _ => rfl) ?_
  show P none S2
  exact hP S2 hO2
set_option maxHeartbeats 1000000 in
/-- RowCode.value()I -/
theorem c_value (hO : OS Bk z S xs ys pj ds cm wt jd rt pl us fs ga ns as t gg m ld) (hP : P (some (.int m.2.2.2.2.2.1)) S) : xw z NK g 108 0 [(0, .ref (z + 0))] [] S P := by
  obtain ⟨h0, ⟨j1, j2, j4, j6, j7, j9, j11, j13⟩, ⟨i15, i16, i18, i20, i21, i23, i25, i26, i28⟩, h30, h31, h33, h35, ⟨g37, g38, g40, g42⟩, h44, h48, h45, h46, h47, hBk⟩ := id hO
  refine xw.steps 1 (fun _ => rfl) ?_
  refine xw.getf (o := 0) rfl h0 rfl ?_
  refine xw.getf (o := 47) rfl h47 rfl ?_
  refine xw.ret rfl (fun _ => rfl) ?_
  show P (some (.int m.2.2.2.2.2.1)) S
  exact hP
set_option maxHeartbeats 1000000 in
/-- RowCode.fuel()I -/
theorem c_fuel (hO : OS Bk z S xs ys pj ds cm wt jd rt pl us fs ga ns as t gg m ld) (hP : P (some (.int m.2.2.2.2.2.2.1)) S) : xw z NK g 109 0 [(0, .ref (z + 0))] [] S P := by
  obtain ⟨h0, ⟨j1, j2, j4, j6, j7, j9, j11, j13⟩, ⟨i15, i16, i18, i20, i21, i23, i25, i26, i28⟩, h30, h31, h33, h35, ⟨g37, g38, g40, g42⟩, h44, h48, h45, h46, h47, hBk⟩ := id hO
  refine xw.steps 1 (fun _ => rfl) ?_
  refine xw.getf (o := 0) rfl h0 rfl ?_
  refine xw.getf (o := 47) rfl h47 rfl ?_
  refine xw.ret rfl (fun _ => rfl) ?_
  show P (some (.int m.2.2.2.2.2.2.1)) S
  exact hP
/-- the judge asked -/
theorem c_fr {b : Bool} (hO : OS Bk z S xs ys pj ds cm wt jd (bI b) pl us fs ga ns as t gg m ld) (hb : xs.length < 60000) (hP : ∀ S' pj' ds' cm' wt' jd' b', OS Bk z S' xs ys pj' ds' cm' wt' jd' (bI b') pl us fs ga ns as t gg m ld → ((¬ jd = 0 ∧ pj' = pj ∧ ds' = ds ∧ cm' = cm ∧ wt' = wt ∧ jd' = jd ∧ b' = b) ∨ (jd = 0 ∧ jd' = 1 ∧ (pj', ds', cm', wt', b') = j_judge xs ys pj ds cm wt)) → P (some (.int (bI b'))) S') : xw z NK g 56 0 [(0, .ref (z + 6))] [] S P :=
  c_findsRight hO.2.1 hb (fun hj => hP S pj ds cm wt jd b hO (.inl ⟨hj, rfl, rfl, rfl, rfl, rfl, rfl⟩)) (fun hj => hP _ _ _ _ _ 1 _ (OS_jput hO _) (.inr ⟨hj, rfl, rfl⟩))
set_option maxHeartbeats 1000000 in
/-- RowCode.build()Z -/
theorem c_build {b : Bool} (hO : OS Bk z S xs ys pj ds cm wt jd (bI b) pl us fs ga ns as t gg m ld) (hb : xs.length < 60000) (hP : ∀ S' pj' ds' cm' wt' jd' b', OS Bk z S' xs ys pj' ds' cm' wt' jd' (bI b') pl us fs ga ns as t gg m ld → ((¬ jd = 0 ∧ pj' = pj ∧ ds' = ds ∧ cm' = cm ∧ wt' = wt ∧ jd' = jd ∧ b' = b) ∨ (jd = 0 ∧ jd' = 1 ∧ (pj', ds', cm', wt', b') = j_judge xs ys pj ds cm wt)) → P (some (.int (bI b'))) S') : xw z NK g 106 0 [(0, .ref (z + 0))] [] S P := by
  obtain ⟨h0, ⟨j1, j2, j4, j6, j7, j9, j11, j13⟩, ⟨i15, i16, i18, i20, i21, i23, i25, i26, i28⟩, h30, h31, h33, h35, ⟨g37, g38, g40, g42⟩, h44, h48, h45, h46, h47, hBk⟩ := id hO
  refine xw.steps 1 (fun _ => rfl) ?_
  refine xw.getf (o := 0) rfl h0 rfl ?_
  show xw z NK g 106 4 [(0, .ref (z + 0))] [.ref (z + 6)] S P
  refine xw.callO (o := 6) rfl rfl rfl j6 rfl rfl (c_fr hO hb ?_)
  intro S2 pj2 ds2 cm2 wt2 jd2 b2 hO2 hD
  obtain ⟨h02, ⟨j12, j22, j42, j62, j72, j92, j112, j132⟩, ⟨i152, i162, i182, i202, i212, i232, i252, i262, i282⟩, h302, h312, h332, h352, ⟨g372, g382, g402, g422⟩, h442, h482, h452, h462, h472, hBk2⟩ := id hO2
  show xw z NK g 106 7 [(0, .ref (z + 0))] [.int (bI b2)] S2 P
  refine xw.ret rfl (fun _ => mx_ret_b _ _) ?_
  show P (some (.int (bI b2))) S2
  exact hP S2 pj2 ds2 cm2 wt2 jd2 b2 hO2 hD
theorem mem_L (hO : OS Bk z S xs ys pj ds cm wt jd rt pl us fs ga ns as t gg m ld) {i v : Int32} : (if m_hasL i = true then xu S 45 (.inr (.inl (false, 16, upd m.2.2.2.2.2.2.2.1 i.toNatClampNeg v))) else S) = xu (xu S 45 (.inr (.inl (false, 16, mL m.2.2.2.2.2.2.2.1 i v)))) 46 (.inr (.inl (false, 64, m.2.2.2.2.2.2.2.2))) := by
  obtain ⟨h0, ⟨j1, j2, j4, j6, j7, j9, j11, j13⟩, ⟨i15, i16, i18, i20, i21, i23, i25, i26, i28⟩, h30, h31, h33, h35, ⟨g37, g38, g40, g42⟩, h44, h48, h45, h46, h47, hBk⟩ := hO
  funext q
  unfold mL
  by_cases c : m_hasL i = true
  · simp only [if_pos c, xu]
    by_cases c1 : q = 46
    · subst c1; simp [h46]
    · simp [c1]
  · simp only [if_neg c, xu]
    by_cases c1 : q = 46
    · subst c1; simp [h46]
    · by_cases c2 : q = 45
      · subst c2; simp [h45]
      · simp [c1, c2]
theorem mem_V (hO : OS Bk z S xs ys pj ds cm wt jd rt pl us fs ga ns as t gg m ld) {i v : Int32} : (if m_hasW i.toInt64 = true then xu S 46 (.inr (.inl (false, 64, upd m.2.2.2.2.2.2.2.2 i.toNatClampNeg v))) else S) = xu (xu S 45 (.inr (.inl (false, 16, m.2.2.2.2.2.2.2.1)))) 46 (.inr (.inl (false, 64, mV m.2.2.2.2.2.2.2.2 i v))) := by
  obtain ⟨h0, ⟨j1, j2, j4, j6, j7, j9, j11, j13⟩, ⟨i15, i16, i18, i20, i21, i23, i25, i26, i28⟩, h30, h31, h33, h35, ⟨g37, g38, g40, g42⟩, h44, h48, h45, h46, h47, hBk⟩ := hO
  funext q
  unfold mV
  by_cases c : m_hasW i.toInt64 = true
  · simp only [if_pos c, xu]
    by_cases c1 : q = 46
    · subst c1; simp
    · by_cases c2 : q = 45
      · subst c2; simp [h45]
      · simp [c1, c2]
  · simp only [if_neg c, xu]
    by_cases c1 : q = 46
    · subst c1; simp [h46]
    · by_cases c2 : q = 45
      · subst c2; simp [h45]
      · simp [c1, c2]
set_option maxHeartbeats 1000000 in
/-- RowCode.set(II)I -/
theorem c_set (hO : OS Bk z S xs ys pj ds cm wt jd rt pl us fs ga ns as t gg m ld) {i v : Int32} (hP : ∀ S', OS Bk z S' xs ys pj ds cm wt jd rt pl us fs ga ns as t gg (m.1, m.2.1, m.2.2.1, m.2.2.2.1, m.2.2.2.2.1, m.2.2.2.2.2.1, m.2.2.2.2.2.2.1, mL m.2.2.2.2.2.2.2.1 i v, m.2.2.2.2.2.2.2.2) ld → P (some (.int (mLa m.2.2.2.2.2.2.2.1 i))) S') : xw z NK g 110 0 [(0, .ref (z + 0)), (1, .int i), (2, .int v)] [] S P := by
  obtain ⟨h0, ⟨j1, j2, j4, j6, j7, j9, j11, j13⟩, ⟨i15, i16, i18, i20, i21, i23, i25, i26, i28⟩, h30, h31, h33, h35, ⟨g37, g38, g40, g42⟩, h44, h48, h45, h46, h47, hBk⟩ := id hO
  refine xw.steps 1 (fun _ => rfl) ?_
  refine xw.getf (o := 0) rfl h0 rfl ?_
  refine xw.steps 1 (fun _ => rfl) ?_
  show xw z NK g 110 5 [(0, .ref (z + 0)), (1, .int i), (2, .int v)] [.int i, .ref (z + 44)] S P
  refine xw.callO (o := 44) rfl rfl rfl h44 rfl rfl (c_localAt h44 h45 h46 ?_)
  show xw z NK g 110 8 [(0, .ref (z + 0)), (1, .int i), (2, .int v)] [.int (mLa m.2.2.2.2.2.2.2.1 i)] S P
  refine xw.steps 2 (fun _ => rfl) ?_
  refine xw.getf (o := 0) rfl h0 rfl ?_
  refine xw.steps 2 (fun _ => rfl) ?_
  show xw z NK g 110 15 [(0, .ref (z + 0)), (1, .int i), (2, .int v), (3, .int (mLa m.2.2.2.2.2.2.2.1 i))] [.int v, .int i, .ref (z + 44)] S P
  refine xw.callO (o := 44) rfl rfl rfl h44 rfl rfl (c_changeLocal h44 h45 h46 ?_)
  have hO2 := OS_mem hO (mL m.2.2.2.2.2.2.2.1 i v) m.2.2.2.2.2.2.2.2
  rw [show (if m_hasL i = true then xu S 45 (.inr (.inl (false, 16, upd m.2.2.2.2.2.2.2.1 i.toNatClampNeg v))) else S) = xu (xu S 45 (.inr (.inl (false, 16, (mL m.2.2.2.2.2.2.2.1 i v))))) 46 (.inr (.inl (false, 64, m.2.2.2.2.2.2.2.2))) from ?_]
  rotate_left
  · exact mem_L hO
  generalize xu (xu S 45 (.inr (.inl (false, 16, (mL m.2.2.2.2.2.2.2.1 i v))))) 46 (.inr (.inl (false, 64, m.2.2.2.2.2.2.2.2))) = S2 at *
  show xw z NK g 110 18 [(0, .ref (z + 0)), (1, .int i), (2, .int v), (3, .int (mLa m.2.2.2.2.2.2.2.1 i))] [] S2 P
  refine xw.steps 1 (fun _ => rfl) ?_
  refine xw.ret rfl (fun _ => rfl) ?_
  show P (some (.int (mLa m.2.2.2.2.2.2.2.1 i))) S2
  exact hP S2 hO2
set_option maxHeartbeats 1000000 in
/-- RowCode.put(II)I -/
theorem c_put (hO : OS Bk z S xs ys pj ds cm wt jd rt pl us fs ga ns as t gg m ld) {i v : Int32} (hP : ∀ S', OS Bk z S' xs ys pj ds cm wt jd rt pl us fs ga ns as t gg (m.1, m.2.1, m.2.2.1, m.2.2.2.1, m.2.2.2.2.1, m.2.2.2.2.2.1, m.2.2.2.2.2.2.1, m.2.2.2.2.2.2.2.1, mV m.2.2.2.2.2.2.2.2 i v) ld → P (some (.int (mVa m.2.2.2.2.2.2.2.2 i))) S') : xw z NK g 111 0 [(0, .ref (z + 0)), (1, .int i), (2, .int v)] [] S P := by
  obtain ⟨h0, ⟨j1, j2, j4, j6, j7, j9, j11, j13⟩, ⟨i15, i16, i18, i20, i21, i23, i25, i26, i28⟩, h30, h31, h33, h35, ⟨g37, g38, g40, g42⟩, h44, h48, h45, h46, h47, hBk⟩ := id hO
  refine xw.steps 1 (fun _ => rfl) ?_
  refine xw.getf (o := 0) rfl h0 rfl ?_
  refine xw.steps 1 (fun _ => rfl) ?_
  show xw z NK g 111 5 [(0, .ref (z + 0)), (1, .int i), (2, .int v)] [.int i, .ref (z + 44)] S P
  refine xw.callO (o := 44) rfl rfl rfl h44 rfl rfl (c_wordAt h44 h45 h46 ?_)
  show xw z NK g 111 8 [(0, .ref (z + 0)), (1, .int i), (2, .int v)] [.int (mVa m.2.2.2.2.2.2.2.2 i)] S P
  refine xw.steps 2 (fun _ => rfl) ?_
  refine xw.getf (o := 0) rfl h0 rfl ?_
  refine xw.steps 2 (fun _ => rfl) ?_
  show xw z NK g 111 15 [(0, .ref (z + 0)), (1, .int i), (2, .int v), (3, .int (mVa m.2.2.2.2.2.2.2.2 i))] [.int v, .int i, .ref (z + 44)] S P
  refine xw.callO (o := 44) rfl rfl rfl h44 rfl rfl (c_changeWord h44 h45 h46 ?_)
  have hO2 := OS_mem hO m.2.2.2.2.2.2.2.1 (mV m.2.2.2.2.2.2.2.2 i v)
  rw [show (if m_hasW i.toInt64 = true then xu S 46 (.inr (.inl (false, 64, upd m.2.2.2.2.2.2.2.2 i.toNatClampNeg v))) else S) = xu (xu S 45 (.inr (.inl (false, 16, m.2.2.2.2.2.2.2.1)))) 46 (.inr (.inl (false, 64, (mV m.2.2.2.2.2.2.2.2 i v)))) from ?_]
  rotate_left
  · exact mem_V hO
  generalize xu (xu S 45 (.inr (.inl (false, 16, m.2.2.2.2.2.2.2.1)))) 46 (.inr (.inl (false, 64, (mV m.2.2.2.2.2.2.2.2 i v)))) = S2 at *
  show xw z NK g 111 18 [(0, .ref (z + 0)), (1, .int i), (2, .int v), (3, .int (mVa m.2.2.2.2.2.2.2.2 i))] [] S2 P
  refine xw.steps 1 (fun _ => rfl) ?_
  refine xw.ret rfl (fun _ => rfl) ?_
  show P (some (.int (mVa m.2.2.2.2.2.2.2.2 i))) S2
  exact hP S2 hO2
end FACE
