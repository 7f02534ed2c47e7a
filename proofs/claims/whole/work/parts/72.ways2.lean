/-! THE WAYS: going along them finds the lengths, or that there are none -/
theorem nd_add {A : List Nat} {n : Nat} {s : WS} {o : Option Nat} {h : Nat} (ht : (aOpt n s o h).2 = true) (h1 : (A ++ s.2).Nodup) (h2 : ∀ i ∈ A ++ s.2, s.1 i ≠ none) : (A ++ (aOpt n s o h).1.2).Nodup ∧ ∀ i ∈ A ++ (aOpt n s o h).1.2, (aOpt n s o h).1.1 i ≠ none := by
  obtain ⟨a1, a2, -, a4, -⟩ := aOpt_ok ht
  have keep : ∀ i, s.1 i ≠ none → (aOpt n s o h).1.1 i ≠ none := by
    intro i hi
    cases hv : s.1 i with
    | none => exact absurd hv hi
    | some v => rw [a1 i v hv]; simp
  rcases a4 with e | ⟨j, ho, hj, e⟩
  · rw [e]; exact ⟨h1, fun i hi => keep i (h2 i hi)⟩
  · rw [e, ← List.append_assoc]
    refine ⟨?_, fun i hi => ?_⟩
    · rw [List.nodup_append]
      refine ⟨h1, by simp, fun x hx y hy => ?_⟩
      rw [List.mem_singleton.mp hy]
      rintro rfl
      exact h2 x hx hj
    · rcases List.mem_append.mp hi with w | w
      · exact keep i (h2 i w)
      · rw [List.mem_singleton.mp w, (a2 j ho).2]; simp
theorem ends_gv {n : Int32} (h : t_ends n = true) : gvn n = 0 := by
  have h : n = 10 ∨ n = 16 ∨ n = 17 := by simpa [t_ends] using h
  rcases h with rfl | rfl | rfl <;> decide
theorem aLv_step {c : List II} {D : Nat → Option Nat} {W Pr : List Nat} {i h : Nat} (hw : WI c (D, W ++ [i]) Pr) (hi : D i = some h) :
    ((aLv c (D, W) i h).2 = true → WI c (aLv c (D, W) i h).1 (i :: Pr)) ∧ ((aLv c (D, W) i h).2 = false → ¬ ∃ H, OkH c H) := by
  obtain ⟨w1, w2, w3, w4, w5, w6⟩ := hw
  simp only at w1 w2 w3 w4 w5 w6
  obtain ⟨⟨k, hk⟩, hin, h60⟩ := w1 i h hi
  have hforce : ∀ H, OkH c H → ∀ j v, D j = some v → H j = some v := fun H ok j v hj => by
    obtain ⟨⟨k, hk⟩, -⟩ := w1 j v hj
    exact rch_ok ok k j v hk
  unfold aLv
  by_cases c0 : h < tkn (nb c i) ∨ 60 < h - tkn (nb c i) + gvn (nb c i)
  · rw [if_pos c0]
    refine ⟨fun w => (by cases w), ?_⟩
    rintro - ⟨H, ok⟩
    have hHi := hforce H ok i h hi
    obtain ⟨b1, b2⟩ := ok.2 i h hHi
    rcases c0 with c0 | c0
    · omega
    · cases hn : nxt c i with
      | none =>
        have he : t_ends (nb c i) = true := by
          unfold nxt at hn
          by_cases e : t_ends (nb c i) = true
          · exact e
          · rw [if_neg e] at hn
            split at hn <;> cases hn
        rw [ends_gv he] at c0
        omega
      | some j =>
        have := (b2 (j, h - tkn (nb c i) + gvn (nb c i)) (mem_succs.mpr (.inl ⟨hn, rfl⟩))).2.1
        simp only at this
        omega
  rw [if_neg c0]
  by_cases c1 : (aOpt c.length (D, W) (nxt c i) (h - tkn (nb c i) + gvn (nb c i))).2 = false
  · rw [if_pos c1]
    refine ⟨fun w => (by cases w), ?_⟩
    rintro - ⟨H, ok⟩
    have hHi := hforce H ok i h hi
    obtain ⟨b1, b2⟩ := ok.2 i h hHi
    obtain ⟨j, hj, hj2⟩ := aOpt_no c1
    have b3 := b2 (j, h - tkn (nb c i) + gvn (nb c i)) (mem_succs.mpr (.inl ⟨hj, rfl⟩))
    simp only at b3
    rcases hj2 with hj2 | ⟨h', e1, e2⟩
    · omega
    · have := hforce H ok j h' e1
      rw [b3.2.2] at this
      exact e2 (Option.some.inj this).symm
  rw [if_neg c1]
  have c1 : (aOpt c.length (D, W) (nxt c i) (h - tkn (nb c i) + gvn (nb c i))).2 = true := by simpa using c1
  obtain ⟨o1, o2, o3, o4, o5⟩ := aOpt_ok c1
  have hndA : ((i :: Pr) ++ W).Nodup := by
    rw [← List.append_assoc, List.nodup_append] at w4
    rw [List.cons_append, List.nodup_cons]
    exact ⟨fun hm => w4.2.2 i hm i (by simp) rfl, w4.1⟩
  have hneA : ∀ q ∈ (i :: Pr) ++ W, D q ≠ none := by
    intro q hq
    rcases List.mem_append.mp hq with w | w
    · rcases List.mem_cons.mp w with rfl | w
      · rw [hi]; simp
      · obtain ⟨v, hv, -⟩ := w3 q w
        rw [hv]; simp
    · exact w5 q (List.mem_append_left _ w)
  obtain ⟨n1, n2⟩ := nd_add (A := i :: Pr) c1 hndA hneA
  generalize aOpt c.length (D, W) (nxt c i) (h - tkn (nb c i) + gvn (nb c i)) = r at *
  obtain ⟨⟨D1, W1⟩, b⟩ := r
  simp only at o1 o2 o3 o4 o5 n1 n2 ⊢
  have hforce1 : ∀ H, OkH c H → ∀ j v, D1 j = some v → H j = some v := fun H ok j v hj => by
    rcases o3 j v hj with w | ⟨w1', w2', -⟩
    · exact hforce H ok j v w
    · have := ((ok.2 i h (hforce H ok i h hi)).2 (j, h - tkn (nb c i) + gvn (nb c i)) (mem_succs.mpr (.inl ⟨w1', rfl⟩))).2.2
      rw [w2']; exact this
  by_cases c2 : (aOpt c.length (D1, W1) (gol c i) (h - tkn (nb c i))).2 = true
  · refine ⟨fun _ => ?_, fun w => by rw [c2] at w; cases w⟩
    obtain ⟨m1, m2⟩ := nd_add (A := i :: Pr) c2 n1 n2
    obtain ⟨p1, p2, p3, p4, p5⟩ := aOpt_ok c2
    generalize aOpt c.length (D1, W1) (gol c i) (h - tkn (nb c i)) = r2 at *
    obtain ⟨⟨D2, W2⟩, b2⟩ := r2
    simp only at p1 p2 p3 p4 p5 m1 m2 ⊢
    have sub1 : ∀ q ∈ W, q ∈ W1 := by
      intro q hq
      rcases o4 with e | ⟨j, -, -, e⟩
      · rw [e]; exact hq
      · rw [e]; exact List.mem_append_left _ hq
    have sub2 : ∀ q ∈ W1, q ∈ W2 := by
      intro q hq
      rcases p4 with e | ⟨j, -, -, e⟩
      · rw [e]; exact hq
      · rw [e]; exact List.mem_append_left _ hq
    have up2 : ∀ q v, D q = some v → D2 q = some v := fun q v w => p1 q v (o1 q v w)
    refine ⟨fun q v hq => ?_, fun q v hq => ?_, fun q hq => ?_, m1, fun q hq => m2 q (List.mem_append_right _ hq), up2 0 0 w6⟩
    · rcases p3 q v hq with w | ⟨e1, e2, -⟩
      · rcases o3 q v w with w | ⟨e1, e2, -⟩
        · exact w1 q v w
        · refine ⟨⟨k + 1, i, h, hk, mem_succs.mpr (.inl ⟨e1, e2⟩)⟩, (o2 q e1).1, by omega⟩
      · exact ⟨⟨k + 1, i, h, hk, mem_succs.mpr (.inr ⟨e1, e2⟩)⟩, (p2 q e1).1, by omega⟩
    · rcases p3 q v hq with w | ⟨e1, e2, e3⟩
      · rcases o3 q v w with w | ⟨e1, e2, e3⟩
        · rcases w2 q v w with w | w
          · rcases List.mem_append.mp w with w | w
            · exact .inl (sub2 q (sub1 q w))
            · rw [List.mem_singleton.mp w]; exact .inr (List.mem_cons_self ..)
          · exact .inr (List.mem_cons_of_mem _ w)
        · exact .inl (sub2 q (o5 q e1 e3))
      · exact .inl (p5 q e1 e3)
    · rcases List.mem_cons.mp hq with rfl | hq
      · refine ⟨h, up2 q h hi, by omega, fun p hp => ?_⟩
        rcases mem_succs.mp hp with ⟨e1, e2⟩ | ⟨e1, e2⟩
        · have := o2 p.1 e1
          exact ⟨this.1, by omega, by rw [e2]; exact p1 _ _ this.2⟩
        · have := p2 p.1 e1
          exact ⟨this.1, by omega, by rw [e2]; exact this.2⟩
      · obtain ⟨v, hv, hv2, hv3⟩ := w3 q hq
        exact ⟨v, up2 q v hv, hv2, fun p hp => ⟨(hv3 p hp).1, (hv3 p hp).2.1, up2 _ _ (hv3 p hp).2.2⟩⟩
  · refine ⟨fun w => absurd w c2, ?_⟩
    rintro - ⟨H, ok⟩
    have c2 : (aOpt c.length (D1, W1) (gol c i) (h - tkn (nb c i))).2 = false := by simpa using c2
    obtain ⟨j, hj, hj2⟩ := aOpt_no c2
    obtain ⟨b1, b2⟩ := ok.2 i h (hforce H ok i h hi)
    have b3 := b2 (j, h - tkn (nb c i)) (mem_succs.mpr (.inr ⟨hj, rfl⟩))
    simp only at b3
    rcases hj2 with hj2 | ⟨h', e1, e2⟩
    · omega
    · have := hforce1 H ok j h' e1
      rw [b3.2.2] at this
      exact e2 (Option.some.inj this).symm
theorem aWays_ok {c : List II} : ∀ (d : Nat) (s : WS) (Pr : List Nat), WI c s Pr → c.length ≤ Pr.length + d →
    ((aWays c d s).2 = true → OkH c (aWays c d s).1.1 ∧ ∀ i h, (aWays c d s).1.1 i = some h → (∃ k, Rch c k i h) ∧ i < c.length ∧ h ≤ 60) ∧ ((aWays c d s).2 = false → ¬ ∃ H, OkH c H) := by
  intro d
  induction d with
  | zero =>
    intro s Pr hw hd
    obtain ⟨w1, w2, w3, w4, w5, w6⟩ := hw
    refine ⟨fun _ => ?_, fun w => (by cases w)⟩
    have hlt : ∀ i ∈ Pr ++ s.2, i < c.length := by
      intro i hi
      rcases List.mem_append.mp hi with w | w
      · obtain ⟨h, hh, -⟩ := w3 i w
        exact (w1 i h hh).2.1
      · cases hv : s.1 i with
        | none => exact absurd hv (w5 i w)
        | some h => exact (w1 i h hv).2.1
    have hl := nodup_len w4 hlt
    rw [List.length_append] at hl
    have hW : s.2 = [] := List.length_eq_zero_iff.mp (by omega)
    show OkH c s.1 ∧ ∀ i h, s.1 i = some h → _
    refine ⟨⟨w6, fun i h hi => ?_⟩, w1⟩
    have hp : i ∈ Pr := by
      rcases w2 i h hi with w | w
      · rw [hW] at w; cases w
      · exact w
    obtain ⟨h', e1, e2, e3⟩ := w3 i hp
    rw [hi] at e1
    cases e1
    exact ⟨e2, e3⟩
  | succ d ih =>
    intro s Pr hw hd
    rw [aWays]
    by_cases hW : s.2 = []
    · rw [if_pos hW]
      obtain ⟨w1, w2, w3, w4, w5, w6⟩ := hw
      refine ⟨fun _ => ?_, fun w => (by cases w)⟩
      show OkH c s.1 ∧ ∀ i h, s.1 i = some h → _
      refine ⟨⟨w6, fun i h hi => ?_⟩, w1⟩
      have hp : i ∈ Pr := by
        rcases w2 i h hi with w | w
        · rw [hW] at w; cases w
        · exact w
      obtain ⟨h', e1, e2, e3⟩ := w3 i hp
      rw [hi] at e1
      cases e1
      exact ⟨e2, e3⟩
    · rw [if_neg hW]
      obtain ⟨D, W⟩ := s
      simp only at hW
      have hsp : W = W.dropLast ++ [W.getLast hW] := (List.dropLast_concat_getLast hW).symm
      have hgl : W.getLast?.getD 0 = W.getLast hW := by rw [List.getLast?_eq_some_getLast hW]; rfl
      simp only
      rw [hgl]
      generalize W.getLast hW = i at *
      rw [hsp] at hw
      generalize W.dropLast = W' at *
      have hi : ∃ h, D i = some h := by
        cases hv : D i with
        | none => exact absurd hv (hw.2.2.2.2.1 i (by simp))
        | some h => exact ⟨h, rfl⟩
      obtain ⟨h, hi⟩ := hi
      rw [hi]
      obtain ⟨s1, s2⟩ := aLv_step hw hi
      simp only [Option.getD_some]
      by_cases ct : (aLv c (D, W') i h).2 = true
      · rw [if_pos ct]
        exact ih _ (i :: Pr) (s1 ct) (by rw [List.length_cons]; omega)
      · rw [if_neg ct]
        exact ⟨fun w => (by cases w), fun _ => s2 (by simpa using ct)⟩
