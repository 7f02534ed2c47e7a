/-! THE LAW: what stands at its entry, and its start (written by wip/gen99p.py) -/
theorem lt21 {j : Nat} (h : j < 21) : j = 0 ∨ j = 1 ∨ j = 2 ∨ j = 3 ∨ j = 4 ∨ j = 5 ∨ j = 6 ∨ j = 7 ∨ j = 8 ∨ j = 9 ∨ j = 10 ∨ j = 11 ∨ j = 12 ∨ j = 13 ∨ j = 14 ∨ j = 15 ∨ j = 16 ∨ j = 17 ∨ j = 18 ∨ j = 19 ∨ j = 20 := by omega
set_option maxRecDepth 100000 in
theorem gs_0 {s : State} {b : Nat} (hgv : (Jvm.Cond.and given_1 narrow_1).before #[Value.ref b] s = true) : ∃ t : Nat, (Term.static "RowCode" "GREATEST" "[I").eval #[Value.ref b] s none [] s = some (.ref t) ∧ va_T .int t 21 (fun j => .int ((x_stat 0).2 j)) (lwA s) s s.heap := by
  have hs := flat_of_before _ hgv
  refine va_Tof (by decide) (hs (.arrayOf (.static "RowCode" "GREATEST" "[I") .int) (by decide +kernel)) (va_eqt (hs (.eq (.length (.static "RowCode" "GREATEST" "[I")) (.int 21)) (by decide +kernel))) (fun j hj => ?_) (fun a ha => Nat.not_le.mpr ha)
  rcases lt21 hj with rfl | rfl | rfl | rfl | rfl | rfl | rfl | rfl | rfl | rfl | rfl | rfl | rfl | rfl | rfl | rfl | rfl | rfl | rfl | rfl | rfl
  · exact va_eqt (hs (.eq (.elem (.static "RowCode" "GREATEST" "[I") (.int 0)) (.int (-1))) (by decide +kernel))
  · exact va_eqt (hs (.eq (.elem (.static "RowCode" "GREATEST" "[I") (.int 1)) (.int 15)) (by decide +kernel))
  · exact va_eqt (hs (.eq (.elem (.static "RowCode" "GREATEST" "[I") (.int 2)) (.int 15)) (by decide +kernel))
  · exact va_eqt (hs (.eq (.elem (.static "RowCode" "GREATEST" "[I") (.int 3)) (.int (-1))) (by decide +kernel))
  · exact va_eqt (hs (.eq (.elem (.static "RowCode" "GREATEST" "[I") (.int 4)) (.int (-1))) (by decide +kernel))
  · exact va_eqt (hs (.eq (.elem (.static "RowCode" "GREATEST" "[I") (.int 5)) (.int (-1))) (by decide +kernel))
  · exact va_eqt (hs (.eq (.elem (.static "RowCode" "GREATEST" "[I") (.int 6)) (.int (-1))) (by decide +kernel))
  · exact va_eqt (hs (.eq (.elem (.static "RowCode" "GREATEST" "[I") (.int 7)) (.int 10)) (by decide +kernel))
  · exact va_eqt (hs (.eq (.elem (.static "RowCode" "GREATEST" "[I") (.int 8)) (.int 5)) (by decide +kernel))
  · exact va_eqt (hs (.eq (.elem (.static "RowCode" "GREATEST" "[I") (.int 9)) (.int 5)) (by decide +kernel))
  · exact va_eqt (hs (.eq (.elem (.static "RowCode" "GREATEST" "[I") (.int 10)) (.int 99)) (by decide +kernel))
  · exact va_eqt (hs (.eq (.elem (.static "RowCode" "GREATEST" "[I") (.int 11)) (.int 99)) (by decide +kernel))
  · exact va_eqt (hs (.eq (.elem (.static "RowCode" "GREATEST" "[I") (.int 12)) (.int 99)) (by decide +kernel))
  · exact va_eqt (hs (.eq (.elem (.static "RowCode" "GREATEST" "[I") (.int 13)) (.int 99)) (by decide +kernel))
  · exact va_eqt (hs (.eq (.elem (.static "RowCode" "GREATEST" "[I") (.int 14)) (.int (-1))) (by decide +kernel))
  · exact va_eqt (hs (.eq (.elem (.static "RowCode" "GREATEST" "[I") (.int 15)) (.int (-1))) (by decide +kernel))
  · exact va_eqt (hs (.eq (.elem (.static "RowCode" "GREATEST" "[I") (.int 16)) (.int (-1))) (by decide +kernel))
  · exact va_eqt (hs (.eq (.elem (.static "RowCode" "GREATEST" "[I") (.int 17)) (.int (-1))) (by decide +kernel))
  · exact va_eqt (hs (.eq (.elem (.static "RowCode" "GREATEST" "[I") (.int 18)) (.int (-1))) (by decide +kernel))
  · exact va_eqt (hs (.eq (.elem (.static "RowCode" "GREATEST" "[I") (.int 19)) (.int (-1))) (by decide +kernel))
  · exact va_eqt (hs (.eq (.elem (.static "RowCode" "GREATEST" "[I") (.int 20)) (.int (-1))) (by decide +kernel))
set_option maxRecDepth 100000 in
theorem gs_1 {s : State} {b : Nat} (hgv : (Jvm.Cond.and given_1 narrow_1).before #[Value.ref b] s = true) : ∃ t : Nat, (Term.static "RowCode" "TAKES" "[I").eval #[Value.ref b] s none [] s = some (.ref t) ∧ va_T .int t 21 (fun j => .int ((x_stat 1).2 j)) (lwA s) s s.heap := by
  have hs := flat_of_before _ hgv
  refine va_Tof (by decide) (hs (.arrayOf (.static "RowCode" "TAKES" "[I") .int) (by decide +kernel)) (va_eqt (hs (.eq (.length (.static "RowCode" "TAKES" "[I")) (.int 21)) (by decide +kernel))) (fun j hj => ?_) (fun a ha => Nat.not_le.mpr ha)
  rcases lt21 hj with rfl | rfl | rfl | rfl | rfl | rfl | rfl | rfl | rfl | rfl | rfl | rfl | rfl | rfl | rfl | rfl | rfl | rfl | rfl | rfl | rfl
  · exact va_eqt (hs (.eq (.elem (.static "RowCode" "TAKES" "[I") (.int 0)) (.int 0)) (by decide +kernel))
  · exact va_eqt (hs (.eq (.elem (.static "RowCode" "TAKES" "[I") (.int 1)) (.int 0)) (by decide +kernel))
  · exact va_eqt (hs (.eq (.elem (.static "RowCode" "TAKES" "[I") (.int 2)) (.int 1)) (by decide +kernel))
  · exact va_eqt (hs (.eq (.elem (.static "RowCode" "TAKES" "[I") (.int 3)) (.int 1)) (by decide +kernel))
  · exact va_eqt (hs (.eq (.elem (.static "RowCode" "TAKES" "[I") (.int 4)) (.int 2)) (by decide +kernel))
  · exact va_eqt (hs (.eq (.elem (.static "RowCode" "TAKES" "[I") (.int 5)) (.int 1)) (by decide +kernel))
  · exact va_eqt (hs (.eq (.elem (.static "RowCode" "TAKES" "[I") (.int 6)) (.int 1)) (by decide +kernel))
  · exact va_eqt (hs (.eq (.elem (.static "RowCode" "TAKES" "[I") (.int 7)) (.int 2)) (by decide +kernel))
  · exact va_eqt (hs (.eq (.elem (.static "RowCode" "TAKES" "[I") (.int 8)) (.int 2)) (by decide +kernel))
  · exact va_eqt (hs (.eq (.elem (.static "RowCode" "TAKES" "[I") (.int 9)) (.int 2)) (by decide +kernel))
  · exact va_eqt (hs (.eq (.elem (.static "RowCode" "TAKES" "[I") (.int 10)) (.int 0)) (by decide +kernel))
  · exact va_eqt (hs (.eq (.elem (.static "RowCode" "TAKES" "[I") (.int 11)) (.int 1)) (by decide +kernel))
  · exact va_eqt (hs (.eq (.elem (.static "RowCode" "TAKES" "[I") (.int 12)) (.int 1)) (by decide +kernel))
  · exact va_eqt (hs (.eq (.elem (.static "RowCode" "TAKES" "[I") (.int 13)) (.int 0)) (by decide +kernel))
  · exact va_eqt (hs (.eq (.elem (.static "RowCode" "TAKES" "[I") (.int 14)) (.int 1)) (by decide +kernel))
  · exact va_eqt (hs (.eq (.elem (.static "RowCode" "TAKES" "[I") (.int 15)) (.int 0)) (by decide +kernel))
  · exact va_eqt (hs (.eq (.elem (.static "RowCode" "TAKES" "[I") (.int 16)) (.int 1)) (by decide +kernel))
  · exact va_eqt (hs (.eq (.elem (.static "RowCode" "TAKES" "[I") (.int 17)) (.int 0)) (by decide +kernel))
  · exact va_eqt (hs (.eq (.elem (.static "RowCode" "TAKES" "[I") (.int 18)) (.int 1)) (by decide +kernel))
  · exact va_eqt (hs (.eq (.elem (.static "RowCode" "TAKES" "[I") (.int 19)) (.int 2)) (by decide +kernel))
  · exact va_eqt (hs (.eq (.elem (.static "RowCode" "TAKES" "[I") (.int 20)) (.int 3)) (by decide +kernel))
set_option maxRecDepth 100000 in
theorem gs_2 {s : State} {b : Nat} (hgv : (Jvm.Cond.and given_1 narrow_1).before #[Value.ref b] s = true) : ∃ t : Nat, (Term.static "RowCode" "GIVES" "[I").eval #[Value.ref b] s none [] s = some (.ref t) ∧ va_T .int t 21 (fun j => .int ((x_stat 2).2 j)) (lwA s) s s.heap := by
  have hs := flat_of_before _ hgv
  refine va_Tof (by decide) (hs (.arrayOf (.static "RowCode" "GIVES" "[I") .int) (by decide +kernel)) (va_eqt (hs (.eq (.length (.static "RowCode" "GIVES" "[I")) (.int 21)) (by decide +kernel))) (fun j hj => ?_) (fun a ha => Nat.not_le.mpr ha)
  rcases lt21 hj with rfl | rfl | rfl | rfl | rfl | rfl | rfl | rfl | rfl | rfl | rfl | rfl | rfl | rfl | rfl | rfl | rfl | rfl | rfl | rfl | rfl
  · exact va_eqt (hs (.eq (.elem (.static "RowCode" "GIVES" "[I") (.int 0)) (.int 1)) (by decide +kernel))
  · exact va_eqt (hs (.eq (.elem (.static "RowCode" "GIVES" "[I") (.int 1)) (.int 1)) (by decide +kernel))
  · exact va_eqt (hs (.eq (.elem (.static "RowCode" "GIVES" "[I") (.int 2)) (.int 0)) (by decide +kernel))
  · exact va_eqt (hs (.eq (.elem (.static "RowCode" "GIVES" "[I") (.int 3)) (.int 1)) (by decide +kernel))
  · exact va_eqt (hs (.eq (.elem (.static "RowCode" "GIVES" "[I") (.int 4)) (.int 0)) (by decide +kernel))
  · exact va_eqt (hs (.eq (.elem (.static "RowCode" "GIVES" "[I") (.int 5)) (.int 1)) (by decide +kernel))
  · exact va_eqt (hs (.eq (.elem (.static "RowCode" "GIVES" "[I") (.int 6)) (.int 1)) (by decide +kernel))
  · exact va_eqt (hs (.eq (.elem (.static "RowCode" "GIVES" "[I") (.int 7)) (.int 1)) (by decide +kernel))
  · exact va_eqt (hs (.eq (.elem (.static "RowCode" "GIVES" "[I") (.int 8)) (.int 1)) (by decide +kernel))
  · exact va_eqt (hs (.eq (.elem (.static "RowCode" "GIVES" "[I") (.int 9)) (.int 2)) (by decide +kernel))
  · exact va_eqt (hs (.eq (.elem (.static "RowCode" "GIVES" "[I") (.int 10)) (.int 0)) (by decide +kernel))
  · exact va_eqt (hs (.eq (.elem (.static "RowCode" "GIVES" "[I") (.int 11)) (.int 0)) (by decide +kernel))
  · exact va_eqt (hs (.eq (.elem (.static "RowCode" "GIVES" "[I") (.int 12)) (.int 0)) (by decide +kernel))
  · exact va_eqt (hs (.eq (.elem (.static "RowCode" "GIVES" "[I") (.int 13)) (.int 0)) (by decide +kernel))
  · exact va_eqt (hs (.eq (.elem (.static "RowCode" "GIVES" "[I") (.int 14)) (.int 0)) (by decide +kernel))
  · exact va_eqt (hs (.eq (.elem (.static "RowCode" "GIVES" "[I") (.int 15)) (.int 0)) (by decide +kernel))
  · exact va_eqt (hs (.eq (.elem (.static "RowCode" "GIVES" "[I") (.int 16)) (.int 0)) (by decide +kernel))
  · exact va_eqt (hs (.eq (.elem (.static "RowCode" "GIVES" "[I") (.int 17)) (.int 0)) (by decide +kernel))
  · exact va_eqt (hs (.eq (.elem (.static "RowCode" "GIVES" "[I") (.int 18)) (.int 1)) (by decide +kernel))
  · exact va_eqt (hs (.eq (.elem (.static "RowCode" "GIVES" "[I") (.int 19)) (.int 1)) (by decide +kernel))
  · exact va_eqt (hs (.eq (.elem (.static "RowCode" "GIVES" "[I") (.int 20)) (.int 0)) (by decide +kernel))
theorem va_T_ne {t N : Nat} {f f' : Nat → Value} {A : Nat → Prop} {s : State} {H : Heap} {t' : Nat} (h : va_T .int t N f A s H) (h' : va_T .int t' N f' A s H) (hN : 0 < N) (hne : f 0 ≠ f' 0) : t ≠ t' := by
  rintro rfl
  obtain ⟨c, a1, -, -, -, -, a6, -⟩ := h
  obtain ⟨c', b1, -, -, -, -, b6, -⟩ := h'
  obtain rfl : c = c' := Option.some.inj (a1.symm.trans b1)
  exact hne (Option.some.inj ((a6 0 hN).symm.trans (b6 0 hN)))
theorem va_T_lt {t N : Nat} {f : Nat → Value} {A : Nat → Prop} {s : State} {H : Heap} (h : va_T .int t N f A s H) : t < H.size := by
  obtain ⟨c, a1, -⟩ := h
  exact (Array.getElem?_eq_some_iff.mp a1).1
theorem oaT_of {s : State} {b : Nat} (hts : ∀ w ∈ lw_tbl, w.before #[Value.ref b] s = true) : oaT s := by
  intro w hw hs
  rcases OA_in w hw with k | k
  · rw [k] at hs; cases hs
  have h1 := hts w k
  rcases OA_kinds w hw with k | k | k
  · exact va_any (by rw [Bool.and_eq_true] at k; exact k.1) h1
  · cases w <;> first | (simp [oaDC] at k; done) | exact va_any rfl h1
  · rw [k] at hs; cases hs
theorem nst_of {s : State} {b : Nat} (hts : ∀ w ∈ lw_tbl, w.before #[Value.ref b] s = true) : ∀ w ∈ mx_nst, va_Nw w s := by
  intro w hw
  obtain ⟨h1, h2⟩ := List.mem_filter.mp hw
  have h3 := hts w h1
  cases w <;> first | (simp [mx_isn] at h2; done) | exact va_Nw.of rfl h3
theorem arrK {s : State} {args : Array Value} {ty : FieldType} (h : (Cond.arrayClass ty).before args s = true) : ∃ cA : ClassId, ArrOfT s cA ty ∧ s.vm.findClass ("[" ++ ty.toString) = some cA := by
  obtain ⟨cA, kA, comp, h1, h2, h3⟩ := Cond.arrayClass_spec h
  exact ⟨cA, fun n z => ⟨fun k h => (by cases h), kA, h2, comp, h3⟩, h1⟩
set_option maxHeartbeats 1000000 in
theorem law_ctx {p : Program} {s : State} {m : MethodId} {meth : Method} {c : Code} {b L : Nat} {xs : Nat → Int32} (C0 : lw_At p s m meth c b L xs) (hnm : meth.name = "law") (h0 : ∃ (cC : ClassId) (iS : Nat → Nat), u_Kn s RX0 TX0 0 cC iS) : ∃ (D : va_G) (cI cZ : ClassId) (g : mx_G), mx_X i_law.1.cls i_law.1.name i_law.2.1 i_law.2.2.1 i_law.2.2.2.1 p room_1 s m #[Value.ref b] meth c D cI cZ (lwA s) g ∧ gOK g s.heap.size ∧ oaT s ∧ tZ "UNASSIGNED_STACK" dSTE (lwA s) s s.heap ∧ tZ "SUPPRESSED_SENTINEL" dLST (lwA s) s s.heap ∧ (∃ q, vk_R "RowCode" 121 "no such local" q s) ∧ (∃ q, vk_R "RowCode" 136 "no such word" q s) := by
  obtain ⟨hx, hb, hr, hml, hown, hts, hX, hbl, hlocks, hgv⟩ := id C0
  have hs := flat_of_before _ hgv
  obtain ⟨c0, iS0, hK0⟩ := h0
  obtain ⟨c1, iS1, hK1⟩ := u_known (C := RX1) (T := TX1) (N := 2) (n := 2) hts inX1 (hts (.instantiable RX1 2) (by decide +kernel))
  obtain ⟨c2, iS2, hK2⟩ := u_known (C := RX2) (T := TX2) (N := 4) (n := 4) hts inX2 (hts (.instantiable RX2 4) (by decide +kernel))
  obtain ⟨c3, iS3, hK3⟩ := u_known (C := RX3) (T := TX3) (N := 7) (n := 7) hts inX3 (hts (.instantiable RX3 7) (by decide +kernel))
  obtain ⟨c4, iS4, hK4⟩ := u_known (C := RX4) (T := TX4) (N := 8) (n := 8) hts inX4 (hts (.instantiable RX4 8) (by decide +kernel))
  obtain ⟨c5, iS5, hK5⟩ := u_known (C := RX5) (T := TX5) (N := 2) (n := 2) hts inX5 (hts (.instantiable RX5 2) (by decide +kernel))
  obtain ⟨c6, iS6, hK6⟩ := u_known (C := RX6) (T := TX6) (N := 2) (n := 2) hts inX6 (hts (.instantiable RX6 2) (by decide +kernel))
  obtain ⟨c7, iS7, hK7⟩ := u_known (C := RX7) (T := TX7) (N := 3) (n := 3) hts inX7 (hts (.instantiable RX7 3) (by decide +kernel))
  obtain ⟨c8, iS8, hK8⟩ := u_known (C := RX8) (T := TX8) (N := 5) (n := 5) hts inX8 (hts (.instantiable RX8 5) (by decide +kernel))
  obtain ⟨c9, iS9, hK9⟩ := u_known (C := RX9) (T := TX9) (N := 8) (n := 8) hts inX9 (hts (.instantiable RX9 8) (by decide +kernel))
  obtain ⟨c10, iS10, hK10⟩ := u_known (C := RX10) (T := TX10) (N := 12) (n := 12) hts inX10 (hts (.instantiable RX10 12) (by decide +kernel))
  have hKc : ∃ (dC : Nat → ClassId) (dI : Nat → Nat → Nat), ∀ (k : Nat) (q : vw_C), mx_cl[k]? = some q → u_Kn s q.1 q.2.1 q.2.2 (dC k) (dI k) := by
    refine ⟨fun k => [c0, c1, c2, c3, c4, c5, c6, c7, c8, c9, c10].getD k c0, fun k => [iS0, iS1, iS2, iS3, iS4, iS5, iS6, iS7, iS8, iS9, iS10].getD k iS0, ?_⟩
    intro k q hq
    match k, hq with
    | 0, hq => cases hq; exact hK0
    | 1, hq => cases hq; exact hK1
    | 2, hq => cases hq; exact hK2
    | 3, hq => cases hq; exact hK3
    | 4, hq => cases hq; exact hK4
    | 5, hq => cases hq; exact hK5
    | 6, hq => cases hq; exact hK6
    | 7, hq => cases hq; exact hK7
    | 8, hq => cases hq; exact hK8
    | 9, hq => cases hq; exact hK9
    | 10, hq => cases hq; exact hK10
    | k + 11, hq => simp [mx_cl] at hq
  obtain ⟨dC, dI, hKc⟩ := hKc
  obtain ⟨cI, aI, nI'⟩ := arrK (hts (.arrayClass .int) (by decide +kernel))
  obtain ⟨cZ, aZ', nZ⟩ := arrK (hts (.arrayClass .boolean) (by decide +kernel))
  have hK : va_K (dC, dI) mx_cl (mx_tys cI cZ) s := by
    refine ⟨hKc, fun k q hk => ?_⟩
    match k, hk with
    | 0, hk => cases hk; exact ⟨aI, nI'⟩
    | 1, hk => cases hk; exact ⟨aZ', nZ⟩
    | k + 2, hk => simp [mx_tys] at hk
  obtain ⟨t0, e0, T0⟩ := gs_0 hgv
  obtain ⟨t1, e1, T1⟩ := gs_1 hgv
  obtain ⟨t2, e2, T2⟩ := gs_2 hgv
  have n01 : t0 ≠ t1 := va_T_ne T0 T1 (by decide) (by decide)
  have n02 : t0 ≠ t2 := va_T_ne T0 T2 (by decide) (by decide)
  have n12 : t1 ≠ t2 := va_T_ne T1 T2 (by decide) (by decide)
  have hA : ∀ a : Nat, a < s.heap.size → ¬ lwA s a := fun a ha => Nat.not_le.mpr ha
  have hG : ∃ g : mx_G, mx_Z (lwA s) g s s.heap ∧ gOK g s.heap.size := by
    refine ⟨(fun k => [t0, t1, t2].getD k t2, fun a => if a = t0 then some (x_stat 0) else if a = t1 then some (x_stat 1) else if a = t2 then some (x_stat 2) else none), ⟨fun k q hk => ?_, fun a n f hf => ?_⟩, fun k hk => ?_⟩
    · match k, hk with
      | 0, hk => cases hk; exact va_Zref (hts (.laysStatic "RowCode" "GREATEST" "[I") (by decide +kernel)) (hts (.initialized "RowCode") (by decide +kernel)) e0 hA
      | 1, hk => cases hk; exact va_Zref (hts (.laysStatic "RowCode" "TAKES" "[I") (by decide +kernel)) (hts (.initialized "RowCode") (by decide +kernel)) e1 hA
      | 2, hk => cases hk; exact va_Zref (hts (.laysStatic "RowCode" "GIVES" "[I") (by decide +kernel)) (hts (.initialized "RowCode") (by decide +kernel)) e2 hA
      | k + 3, hk => simp [mx_sts] at hk
    · have hf : (if a = t0 then some (x_stat 0) else if a = t1 then some (x_stat 1) else if a = t2 then some (x_stat 2) else none) = some (n, f) := hf
      by_cases h1 : a = t0
      · rw [if_pos h1] at hf
        have e : x_stat 0 = (n, f) := Option.some.inj hf
        have e1 : (x_stat 0).1 = n := by rw [e]
        have e2 : (x_stat 0).2 = f := by rw [e]
        rw [← e1, ← e2, h1]
        exact T0
      rw [if_neg h1] at hf
      by_cases h2 : a = t1
      · rw [if_pos h2] at hf
        have e : x_stat 1 = (n, f) := Option.some.inj hf
        have e1 : (x_stat 1).1 = n := by rw [e]
        have e2 : (x_stat 1).2 = f := by rw [e]
        rw [← e1, ← e2, h2]
        exact T1
      rw [if_neg h2] at hf
      by_cases h3 : a = t2
      · rw [if_pos h3] at hf
        have e : x_stat 2 = (n, f) := Option.some.inj hf
        have e1 : (x_stat 2).1 = n := by rw [e]
        have e2 : (x_stat 2).2 = f := by rw [e]
        rw [← e1, ← e2, h3]
        exact T2
      rw [if_neg h3] at hf
      cases hf
    · have : k = 0 ∨ k = 1 ∨ k = 2 := by omega
      rcases this with rfl | rfl | rfl
      · exact ⟨va_T_lt T0, if_pos rfl⟩
      · exact ⟨va_T_lt T1, by show (if t1 = t0 then some (x_stat 0) else if t1 = t1 then some (x_stat 1) else _) = _; rw [if_neg (Ne.symm n01), if_pos rfl]⟩
      · exact ⟨va_T_lt T2, by show (if t2 = t0 then some (x_stat 0) else if t2 = t1 then some (x_stat 1) else if t2 = t2 then some (x_stat 2) else none) = _; rw [if_neg (Ne.symm n02), if_neg (Ne.symm n12), if_pos rfl]⟩
  obtain ⟨g, hZz, hg⟩ := hG
  obtain ⟨q1, -, -, -, f1, -⟩ := Cond.exactly_spec (hs (.exactly (.string "RowCode" 121) "java/lang/String") (by decide +kernel))
  obtain ⟨q2, -, -, -, f2, -⟩ := Cond.exactly_spec (hs (.exactly (.string "RowCode" 136) "java/lang/String") (by decide +kernel))
  refine ⟨(dC, dI), cI, cZ, g, ⟨hx, hb, hml, hr, hown, fun w hw => hts w (mx_tb_good w hw).1, hlocks, hnm, hK, nst_of hts, hZz, fun q hq => hq⟩, hg, oaT_of hts, tZ.of (hts (.laysStatic tN' "UNASSIGNED_STACK" dSTE) (by decide +kernel)) (hs (.isRef (.static tN' "UNASSIGNED_STACK" dSTE)) (by decide +kernel)) hA, tZ.of (hts (.laysStatic tN' "SUPPRESSED_SENTINEL" dLST) (by decide +kernel)) (hs (.isRef (.static tN' "SUPPRESSED_SENTINEL" dLST)) (by decide +kernel)) hA, ⟨q1, vk_R.of (hts (.stringRef "RowCode" 121 "no such local") (by decide +kernel)) f1⟩, ⟨q2, vk_R.of (hts (.stringRef "RowCode" 136 "no such word") (by decide +kernel)) f2⟩⟩
