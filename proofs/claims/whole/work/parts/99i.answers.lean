/-! RowCode.local and RowCode.word, where they answer (written by wip/gen99i.py) -/
theorem w_f49 : Cond.fieldLink "RowCode" 49 "RowCode" "memory" "LRowCode$Memory;" ∈ mx_tb := mx_tb_in (by decide +kernel) (by decide +kernel)
theorem w_l108 : Cond.methodLink "RowCode" 108 i_20.1 ∈ mx_tb := mx_tb_in (by decide +kernel) (by decide +kernel)
theorem w_l126 : Cond.methodLink "RowCode" 126 i_22.1 ∈ mx_tb := mx_tb_in (by decide +kernel) (by decide +kernel)
def mt_146 : List (Nat × mx_E) := [(0, .inl (sx_iload 1 1)), (1, .inr (.inl (18, 1, none, 1))), (4, .inl (sx_if (fun x => decide (¬ x = 0)) 17 7)), (17, .inl (sx_aload 0 18)), (18, .inl (sx_getf 9 5 21)), (21, .inl (sx_iload 1 22)), (22, .inr (.inl (20, 2, some (some 5), 2))), (25, .inr (.inr (some .int)))]
def mt_147 : List (Nat × mx_E) := [(0, .inl (sx_iload 1 1)), (1, .inl (sx_i2l 2)), (2, .inr (.inl (19, 1, none, 2))), (5, .inl (sx_if (fun x => decide (¬ x = 0)) 18 8)), (18, .inl (sx_aload 0 19)), (19, .inl (sx_getf 9 5 22)), (22, .inl (sx_iload 1 23)), (23, .inr (.inl (22, 2, some (some 5), 2))), (26, .inr (.inr (some .int)))]
def mx_M2 (mi pc : Nat) : Option mx_E := if mi = 146 then mx_find mt_146 pc else if mi = 147 then mx_find mt_147 pc else mx_M mi pc
def mx_I2 (k : Nat) : Option mx_I := if k = 146 then some i_146 else if k = 147 then some i_147 else mx_I0 k
theorem I0_lt {k : Nat} {j : mx_I} (h : mx_I0 k = some j) : k < 146 := (List.getElem?_eq_some_iff.mp h).1
theorem M_lt {mi pc : Nat} {en : mx_E} (h : mx_M mi pc = some en) : mi < 146 := by
  obtain ⟨i, h1, -⟩ := mx_M_ok h
  exact I0_lt h1
theorem M2_eq {mi : Nat} (h : mi < 146) (pc : Nat) : mx_M2 mi pc = mx_M mi pc := by
  unfold mx_M2
  rw [if_neg (by omega), if_neg (by omega)]
theorem m2_exec : ∀ (n mi pc : Nat) (lv : mx_L) (st : List Value) (h : mx_H), mi < 146 → mx_exec mx_M2 n mi pc lv st h = mx_exec mx_M n mi pc lv st h := by
  intro n
  induction n with
  | zero => intros; rfl
  | succ n ih =>
    intro mi pc lv st h hm
    rw [mx_exec, mx_exec, M2_eq hm]
    cases hE : mx_M mi pc with
    | none => rfl
    | some x =>
      rcases x with f | c | ty
      · simp only
        cases hq : f lv st h with
        | none => rfl
        | some q => simp only; exact ih _ _ _ _ _ hm
      · simp only
        obtain ⟨i, -, j, hj, -⟩ := mx_M_ok hE
        rw [ih c.1 0 _ [] h (I0_lt hj)]
        split
        · split
          · rfl
          · exact ih _ _ _ _ _ hm
        · rfl
      · rfl
theorem m2_to {mi pc : Nat} {lv : mx_L} {st : List Value} {h : mx_H} {r : Option Value × mx_H} (hm : mi < 146) (hg : Go mi pc lv st h r) : mx_to mx_M2 mi pc lv st h r := by
  obtain ⟨n, e⟩ := hg
  exact ⟨n, by rw [m2_exec n mi pc lv st h hm]; exact e⟩
theorem ok_146 : ∀ q ∈ mt_146, mx_ok mx_I2 i_146 q.1 q.2 := by
  refine List.forall_mem_cons.mpr ⟨sn_iload_n (k := 1) (by decide +kernel), ?_⟩
  refine List.forall_mem_cons.mpr ⟨⟨i_18, rfl, mk_callS (by decide) (by decide) cs_18 (Or.inl w_l115) (by decide +kernel)⟩, ?_⟩
  refine List.forall_mem_cons.mpr ⟨sn_if_ne (off := 13) (by decide +kernel) (by decide), ?_⟩
  refine List.forall_mem_cons.mpr ⟨sn_aload_n (k := 0) (by decide +kernel), ?_⟩
  refine List.forall_mem_cons.mpr ⟨sn_getf (by decide +kernel) rfl tbX9 (by decide) w_f49, ?_⟩
  refine List.forall_mem_cons.mpr ⟨sn_iload_n (k := 1) (by decide +kernel), ?_⟩
  refine List.forall_mem_cons.mpr ⟨⟨i_20, rfl, mk_callV (by decide) (by decide) cv_20 (Or.inl w_l108) rfl (by decide +kernel)⟩, ?_⟩
  refine List.forall_mem_cons.mpr ⟨⟨rfl, (by decide +kernel : decode prog_1_method_9_code 25 = .ok (.ireturn, 1))⟩, ?_⟩
  exact fun _ h => absurd h List.not_mem_nil
theorem ok_147 : ∀ q ∈ mt_147, mx_ok mx_I2 i_147 q.1 q.2 := by
  refine List.forall_mem_cons.mpr ⟨sn_iload_n (k := 1) (by decide +kernel), ?_⟩
  refine List.forall_mem_cons.mpr ⟨sn_i2l (by decide +kernel), ?_⟩
  refine List.forall_mem_cons.mpr ⟨⟨i_19, rfl, mk_callS (by decide) (by decide) cs_19 (Or.inl w_l132) (by decide +kernel)⟩, ?_⟩
  refine List.forall_mem_cons.mpr ⟨sn_if_ne (off := 13) (by decide +kernel) (by decide), ?_⟩
  refine List.forall_mem_cons.mpr ⟨sn_aload_n (k := 0) (by decide +kernel), ?_⟩
  refine List.forall_mem_cons.mpr ⟨sn_getf (by decide +kernel) rfl tbX9 (by decide) w_f49, ?_⟩
  refine List.forall_mem_cons.mpr ⟨sn_iload_n (k := 1) (by decide +kernel), ?_⟩
  refine List.forall_mem_cons.mpr ⟨⟨i_22, rfl, mk_callV (by decide) (by decide) cv_22 (Or.inl w_l126) rfl (by decide +kernel)⟩, ?_⟩
  refine List.forall_mem_cons.mpr ⟨⟨rfl, (by decide +kernel : decode prog_1_method_11_code 26 = .ok (.ireturn, 1))⟩, ?_⟩
  exact fun _ h => absurd h List.not_mem_nil
theorem M2_146 {pc : Nat} {en : mx_E} (h : mx_M2 146 pc = some en) : mx_ok mx_I2 i_146 pc en := ok_146 _ (mx_find_mem mt_146 pc en h)
theorem M2_147 {pc : Nat} {en : mx_E} (h : mx_M2 147 pc = some en) : mx_ok mx_I2 i_147 pc en := ok_147 _ (mx_find_mem mt_147 pc en h)
theorem m2_mono : mx_mono mx_M2 := by
  intro mi pc f h
  by_cases h1 : mi = 146
  · subst h1; exact (M2_146 h).1
  by_cases h2 : mi = 147
  · subst h2; exact (M2_147 h).1
  unfold mx_M2 at h
  rw [if_neg h1, if_neg h2] at h
  exact mx_M_mono mi pc f h
theorem m2_rec (l : Launch) (D : va_G) (cI cZ : ClassId) : ∀ (mj : Nat) (j : mx_I), mx_I2 mj = some j → j.2.2.2.2.1 < 6 → mx_Met mx_M2 l D cI cZ mj j := by
  intro mj j hj hlt
  by_cases h1 : mj = 146
  · subst h1
    cases (show some i_146 = some j from hj)
    exact absurd hlt (by decide)
  by_cases h2 : mj = 147
  · subst h2
    cases (show some i_147 = some j from hj)
    exact absurd hlt (by decide)
  unfold mx_I2 at hj
  rw [if_neg h1, if_neg h2] at hj
  intro n av h v hf ex hav
  rw [m2_exec n mj 0 _ [] h (I0_lt hj)] at ex
  exact mx_all l D cI cZ mj j hj n av h v hf ex hav
theorem met_146 (l : Launch) (D : va_G) (cI cZ : ClassId) : mx_Met mx_M2 l D cI cZ 146 i_146 := mx_method m2_mono (by decide) (fun pc en h => M2_146 h) (m2_rec l D cI cZ)
theorem met_147 (l : Launch) (D : va_G) (cI cZ : ClassId) : mx_Met mx_M2 l D cI cZ 147 i_147 := mx_method m2_mono (by decide) (fun pc en h => M2_147 h) (m2_rec l D cI cZ)
theorem go_146 {z : Nat} {NK : List Nat} {c0 : Nat × Nat} {g : mx_G} {h : mx_H} {S : xS} {c : List II} {va fu : Int32} {lo wo : Nat → Int32} {i : Int32} (hI : xI z NK c0 g h S) (hL : lawR z S c va fu lo wo) (hh : m_hasL i = true) : ∃ (n : Nat) (hf : mx_H), mx_exec mx_M2 n 146 0 [(0, .ref z), (1, .int i)] [] h = some (some (.int (mLa lo i)), hf) ∧ xI z NK c0 g hf S ∧ (∀ q, q < h.1 → mx_get h q = none → mx_get hf q = none) := by
  obtain ⟨pj, ds, cm, wt, jd, b, pl, us, fs, ga, ns, as, t, gg, m, ld, hO, h60, e1, e2, e3, e4, -⟩ := hL
  obtain ⟨q0, -, -, -, -, -, -, -, q44, q48, q45, q46, q47, -⟩ := hO
  obtain ⟨v1, h1, S1, ⟨n1, x1⟩, i1, rfl, rfl⟩ := c_hasLocal (P := fun v S' => v = some (.int (bI (m_hasL i))) ∧ S' = S) (z := z) (NK := NK) (g := g) (S := S) ⟨rfl, rfl⟩ c0 h hI
  obtain ⟨v2, h2, S2, ⟨n2, x2⟩, i2, rfl, rfl⟩ := c_localAt (P := fun v S' => v = some (.int (mLa lo i)) ∧ S' = S1) (z := z) (NK := NK) (g := g) (S := S1) (o := 44) (n := 45) (a := 46) (i := i) q44 q45 q46 ⟨by rw [← e3]; rfl, rfl⟩ c0 h1 i1
  have g0 : mx_get h1 z = some (.inr (9, [.ref (z + 1), .ref (z + 6), .ref (z + 15), .ref (z + 30), .ref (z + 37), .ref (z + 44), .ref (z + 47), .int ld])) := i1.obj (k := 0) q0
  have g44 : mx_get h1 (z + 44) = some (.inr (5, [.ref (z + 45), .ref (z + 46)])) := i1.obj q44
  have run : mx_to mx_M2 146 0 [(0, .ref z), (1, .int i)] [] h (some (.int (mLa lo i)), h2) := by
    refine mx_to.steps 1 rfl ?_
    refine mx_to.call (c := (18, 1, none, 1)) (q := (some (.int (bI (m_hasL i))), h1)) rfl rfl (m2_to (by decide) ⟨n1, x1⟩) ?_
    rw [hh]
    refine mx_to.steps 2 rfl ?_
    refine mx_to.step (f := sx_getf 9 5 21) (pc' := 21) (lv' := [(0, .ref z), (1, .int i)]) (st' := [.ref (z + 44)]) (h' := h1) rfl (by simp only [sx_getf, g0, if_true]; rfl) ?_
    refine mx_to.steps 1 rfl ?_
    refine mx_to.call (c := (20, 2, some (some 5), 2)) (q := (some (.int (mLa lo i)), h2)) rfl (mx_cok_of rfl (by simp [mx_rcv, g44])) (m2_to (by decide) ⟨n2, x2⟩) ?_
    exact mx_to.ret (ty := some .int) rfl rfl
  obtain ⟨n, x⟩ := run
  obtain ⟨w1, -, -⟩ := mx_exec_mono mx_M_mono _ _ _ _ _ _ _ x1
  exact ⟨n, h2, x, i2, fun q a1 a2 => dm_exec _ _ _ _ _ _ _ x2 q (Nat.lt_of_lt_of_le a1 w1) (dm_exec _ _ _ _ _ _ _ x1 q a1 a2)⟩
theorem go_147 {z : Nat} {NK : List Nat} {c0 : Nat × Nat} {g : mx_G} {h : mx_H} {S : xS} {c : List II} {va fu : Int32} {lo wo : Nat → Int32} {i : Int32} (hI : xI z NK c0 g h S) (hL : lawR z S c va fu lo wo) (hh : m_hasW i.toInt64 = true) : ∃ (n : Nat) (hf : mx_H), mx_exec mx_M2 n 147 0 [(0, .ref z), (1, .int i)] [] h = some (some (.int (mVa wo i)), hf) ∧ xI z NK c0 g hf S ∧ (∀ q, q < h.1 → mx_get h q = none → mx_get hf q = none) := by
  obtain ⟨pj, ds, cm, wt, jd, b, pl, us, fs, ga, ns, as, t, gg, m, ld, hO, h60, e1, e2, e3, e4, -⟩ := hL
  obtain ⟨q0, -, -, -, -, -, -, -, q44, q48, q45, q46, q47, -⟩ := hO
  obtain ⟨v1, h1, S1, ⟨n1, x1⟩, i1, rfl, rfl⟩ := c_hasWord (P := fun v S' => v = some (.int (bI (m_hasW i.toInt64))) ∧ S' = S) (z := z) (NK := NK) (g := g) (S := S) ⟨rfl, rfl⟩ c0 h hI
  obtain ⟨v2, h2, S2, ⟨n2, x2⟩, i2, rfl, rfl⟩ := c_wordAt (P := fun v S' => v = some (.int (mVa wo i)) ∧ S' = S1) (z := z) (NK := NK) (g := g) (S := S1) (o := 44) (n := 45) (a := 46) (i := i) q44 q45 q46 ⟨by rw [← e4]; rfl, rfl⟩ c0 h1 i1
  have g0 : mx_get h1 z = some (.inr (9, [.ref (z + 1), .ref (z + 6), .ref (z + 15), .ref (z + 30), .ref (z + 37), .ref (z + 44), .ref (z + 47), .int ld])) := i1.obj (k := 0) q0
  have g44 : mx_get h1 (z + 44) = some (.inr (5, [.ref (z + 45), .ref (z + 46)])) := i1.obj q44
  have run : mx_to mx_M2 147 0 [(0, .ref z), (1, .int i)] [] h (some (.int (mVa wo i)), h2) := by
    refine mx_to.steps 2 rfl ?_
    refine mx_to.call (c := (19, 1, none, 2)) (q := (some (.int (bI (m_hasW i.toInt64))), h1)) rfl rfl (m2_to (by decide) ⟨n1, x1⟩) ?_
    rw [hh]
    refine mx_to.steps 2 rfl ?_
    refine mx_to.step (f := sx_getf 9 5 22) (pc' := 22) (lv' := [(0, .ref z), (1, .int i)]) (st' := [.ref (z + 44)]) (h' := h1) rfl (by simp only [sx_getf, g0, if_true]; rfl) ?_
    refine mx_to.steps 1 rfl ?_
    refine mx_to.call (c := (22, 2, some (some 5), 2)) (q := (some (.int (mVa wo i)), h2)) rfl (mx_cok_of rfl (by simp [mx_rcv, g44])) (m2_to (by decide) ⟨n2, x2⟩) ?_
    exact mx_to.ret (ty := some .int) rfl rfl
  obtain ⟨n, x⟩ := run
  obtain ⟨w1, -, -⟩ := mx_exec_mono mx_M_mono _ _ _ _ _ _ _ x1
  exact ⟨n, h2, x, i2, fun q a1 a2 => dm_exec _ _ _ _ _ _ _ x2 q (Nat.lt_of_lt_of_le a1 w1) (dm_exec _ _ _ _ _ _ _ x1 q a1 a2)⟩
