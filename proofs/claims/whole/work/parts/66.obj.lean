/-! THE WHOLE OBJECT -/
abbrev OS (Bk : xS) (z : Nat) (S : xS) (xs ys pj ds cm wt : List Int32) (jd rt : Int32) (pl us fs ga ns as : List Int32) (t : TT) (gg : GG) (m : MM) (ld : Int32) : Prop :=
  S 0 = some (.inr (.inr (9, [.ref (z + 1), .ref (z + 6), .ref (z + 15), .ref (z + 30), .ref (z + 37), .ref (z + 44), .ref (z + 47), .int ld]))) ∧
  jS z S xs ys pj ds cm wt jd rt ∧ iS z S 20 21 23 25 26 28 pl us fs ga ns as ∧
  S 30 = some (.inr (.inr (8, [.ref (z + 31), .ref (z + 33), .ref (z + 35), .int t.2.2.2.1, .int t.2.2.2.2]))) ∧ S 31 = some (.inl t.1) ∧ S 33 = some (.inl t.2.1) ∧ S 35 = some (.inl t.2.2.1) ∧
  gS z S gg.1 gg.2.1 gg.2.2 ∧ S 44 = some (.inr (.inr (5, [.ref (z + 45), .ref (z + 46)]))) ∧
  S 48 = some (.inl m.1) ∧ S 45 = some (.inr (.inl (false, 16, m.2.2.2.2.2.2.2.1))) ∧ S 46 = some (.inr (.inl (false, 64, m.2.2.2.2.2.2.2.2))) ∧
  S 47 = some (.inr (.inr (4, [.ref (z + 44), .ref (z + 48), .int m.2.1, .int m.2.2.1, .int m.2.2.2.1, .int m.2.2.2.2.1, .int m.2.2.2.2.2.1, .int m.2.2.2.2.2.2.1]))) ∧ ∀ q, 52 ≤ q → S q = Bk q
section OSS
variable {Bk : xS} {z : Nat} {NK : List Nat} {g : mx_G} {S : xS} {P : Option Value → xS → Prop} {xs ys pj ds cm wt pl us fs ga ns as : List Int32} {jd rt ld : Int32} {t : TT} {gg : GG} {m : MM}
theorem OS_t (h : OS Bk z S xs ys pj ds cm wt jd rt pl us fs ga ns as t gg m ld) : tput z S t = S := by
  obtain ⟨-, -, -, h30, h31, h33, h35, -⟩ := h
  funext q
  unfold tput xu
  by_cases c1 : q = 30
  · subst c1; simp [h30]
  by_cases c2 : q = 31
  · subst c2; simp [h31]
  by_cases c3 : q = 33
  · subst c3; simp [h33]
  by_cases c4 : q = 35
  · subst c4; simp [h35]
  simp [c1, c2, c3, c4]
theorem OS_m (h : OS Bk z S xs ys pj ds cm wt jd rt pl us fs ga ns as t gg m ld) : mput z S m = S := by
  obtain ⟨-, -, -, -, -, -, -, -, -, h48, h45, h46, h47, -⟩ := h
  funext q
  unfold mput xu
  by_cases c1 : q = 47
  · subst c1; simp [h47]
  by_cases c2 : q = 46
  · subst c2; simp [h46]
  by_cases c3 : q = 45
  · subst c3; simp [h45]
  by_cases c4 : q = 48
  · subst c4; simp [h48]
  simp [c1, c2, c3, c4]
theorem OS_tput (h : OS Bk z S xs ys pj ds cm wt jd rt pl us fs ga ns as t gg m ld) (t' : TT) : OS Bk z (tput z S t') xs ys pj ds cm wt jd rt pl us fs ga ns as t' gg m ld := by
  obtain ⟨h0, ⟨j1, j2, j3, j4, j5, j6, j7, j8⟩, ⟨i1, i2, i3, i4, i5, i6, i7, i8, i9⟩, h30, h31, h33, h35, ⟨g1, g2, g3, g4⟩, h44, h48, h45, h46, h47, hB⟩ := h
  have e : ∀ {q : Nat}, (q ≠ 30 ∧ q ≠ 31 ∧ q ≠ 33 ∧ q ≠ 35) → tput z S t' q = S q := fun hq => tput_ne z S t' hq
  refine ⟨?_, ⟨?_, ?_, ?_, ?_, ?_, ?_, ?_, ?_⟩, ⟨?_, ?_, ?_, ?_, ?_, ?_, ?_, ?_, ?_⟩, tput_30 .., tput_31 .., tput_33 .., tput_35 .., ⟨?_, ?_, ?_, ?_⟩, ?_, ?_, ?_, ?_, ?_, ?_⟩
  all_goals first
    | (rw [e (by decide)]; assumption)
    | (intro q hq; rw [e (by omega)]; exact hB q hq)
theorem OS_mput (h : OS Bk z S xs ys pj ds cm wt jd rt pl us fs ga ns as t gg m ld) (m' : MM) : OS Bk z (mput z S m') xs ys pj ds cm wt jd rt pl us fs ga ns as t gg m' ld := by
  obtain ⟨h0, ⟨j1, j2, j3, j4, j5, j6, j7, j8⟩, ⟨i1, i2, i3, i4, i5, i6, i7, i8, i9⟩, h30, h31, h33, h35, ⟨g1, g2, g3, g4⟩, h44, h48, h45, h46, h47, hB⟩ := h
  have e : ∀ {q : Nat}, (q ≠ 47 ∧ q ≠ 46 ∧ q ≠ 45 ∧ q ≠ 48) → mput z S m' q = S q := fun hq => by simp [mput, xu, hq]
  refine ⟨?_, ⟨?_, ?_, ?_, ?_, ?_, ?_, ?_, ?_⟩, ⟨?_, ?_, ?_, ?_, ?_, ?_, ?_, ?_, ?_⟩, ?_, ?_, ?_, ?_, ⟨?_, ?_, ?_, ?_⟩, ?_, ?_, ?_, ?_, ?_, ?_⟩
  all_goals first
    | (rw [e (by decide)]; assumption)
    | (intro q hq; rw [e (by omega)]; exact hB q hq)
    | simp [mput, xu]
theorem OS_gput (h : OS Bk z S xs ys pj ds cm wt jd rt pl us fs ga ns as t gg m ld) (gg' : GG) : OS Bk z (gput S gg') xs ys pj ds cm wt jd rt pl us fs ga ns as t gg' m ld := by
  obtain ⟨h0, ⟨j1, j2, j3, j4, j5, j6, j7, j8⟩, ⟨i1, i2, i3, i4, i5, i6, i7, i8, i9⟩, h30, h31, h33, h35, ⟨g1, g2, g3, g4⟩, h44, h48, h45, h46, h47, hB⟩ := h
  have e : ∀ {q : Nat}, (q ≠ 38 ∧ q ≠ 40 ∧ q ≠ 42) → gput S gg' q = S q := fun hq => by simp [gput, xu, hq]
  refine ⟨?_, ⟨?_, ?_, ?_, ?_, ?_, ?_, ?_, ?_⟩, ⟨?_, ?_, ?_, ?_, ?_, ?_, ?_, ?_, ?_⟩, ?_, ?_, ?_, ?_, ⟨?_, ?_, ?_, ?_⟩, ?_, ?_, ?_, ?_, ?_, ?_⟩
  all_goals first
    | (rw [e (by decide)]; assumption)
    | (intro q hq; rw [e (by omega)]; exact hB q hq)
    | simp [gput, xu]
theorem OS_jput (h : OS Bk z S xs ys pj ds cm wt jd rt pl us fs ga ns as t gg m ld) (r : List Int32 × List Int32 × List Int32 × List Int32 × Bool) : OS Bk z (j_put z S r) xs ys r.1 r.2.1 r.2.2.1 r.2.2.2.1 1 (bI r.2.2.2.2) pl us fs ga ns as t gg m ld := by
  obtain ⟨h0, ⟨j1, j2, j3, j4, j5, j6, j7, j8⟩, ⟨i1, i2, i3, i4, i5, i6, i7, i8, i9⟩, h30, h31, h33, h35, ⟨g1, g2, g3, g4⟩, h44, h48, h45, h46, h47, hB⟩ := h
  have e : ∀ {q : Nat}, (q ≠ 6 ∧ q ≠ 7 ∧ q ≠ 9 ∧ q ≠ 11 ∧ q ≠ 13) → j_put z S r q = S q := fun hq => by simp [j_put, xu, hq]
  refine ⟨?_, ⟨?_, ?_, ?_, ?_, ?_, ?_, ?_, ?_⟩, ⟨?_, ?_, ?_, ?_, ?_, ?_, ?_, ?_, ?_⟩, ?_, ?_, ?_, ?_, ⟨?_, ?_, ?_, ?_⟩, ?_, ?_, ?_, ?_, ?_, ?_⟩
  all_goals first
    | (rw [e (by decide)]; assumption)
    | (intro q hq; rw [e (by omega)]; exact hB q hq)
    | simp [j_put, xu, j_obj]
theorem OS_pput (h : OS Bk z S xs ys pj ds cm wt jd rt pl us fs ga ns as t gg m ld) (c : List Int32 × List Int32) : OS Bk z (p_put S c) xs ys pj ds cm wt jd rt (p_pls (p_pass (p_pass (p_pass c)))) (p_uss (p_pass (p_pass (p_pass c)))) (p_pass (p_pass (p_pass c))).1 (p_pass (p_pass (p_pass c))).2 (p_pass (p_pass (p_pass (p_pass c)))).1 (p_pass (p_pass (p_pass (p_pass c)))).2 t gg m ld := by
  obtain ⟨h0, ⟨j1, j2, j3, j4, j5, j6, j7, j8⟩, ⟨i1, i2, i3, i4, i5, i6, i7, i8, i9⟩, h30, h31, h33, h35, ⟨g1, g2, g3, g4⟩, h44, h48, h45, h46, h47, hB⟩ := h
  unfold p_put
  generalize p_pass (p_pass (p_pass c)) = c3
  generalize p_pls c3 = a1
  generalize p_uss c3 = a2
  generalize p_pass c3 = c4
  refine ⟨?_, ⟨?_, ?_, ?_, ?_, ?_, ?_, ?_, ?_⟩, ⟨?_, ?_, ?_, ?_, ?_, ?_, ?_, ?_, ?_⟩, ?_, ?_, ?_, ?_, ⟨?_, ?_, ?_, ?_⟩, ?_, ?_, ?_, ?_, ?_, ?_⟩
  all_goals first
    | (intro q hq; repeat rw [xu_ne _ _ (by omega)]
       exact hB q hq)
    | (simp only [xu]; simp; try assumption)
theorem OS_ld (h : OS Bk z S xs ys pj ds cm wt jd rt pl us fs ga ns as t gg m ld) (ld' : Int32) : OS Bk z (xu S 0 (.inr (.inr (9, [.ref (z + 1), .ref (z + 6), .ref (z + 15), .ref (z + 30), .ref (z + 37), .ref (z + 44), .ref (z + 47), .int ld'])))) xs ys pj ds cm wt jd rt pl us fs ga ns as t gg m ld' := by
  obtain ⟨h0, ⟨j1, j2, j3, j4, j5, j6, j7, j8⟩, ⟨i1, i2, i3, i4, i5, i6, i7, i8, i9⟩, h30, h31, h33, h35, ⟨g1, g2, g3, g4⟩, h44, h48, h45, h46, h47, hB⟩ := h
  refine ⟨xu_self .., ⟨?_, ?_, ?_, ?_, ?_, ?_, ?_, ?_⟩, ⟨?_, ?_, ?_, ?_, ?_, ?_, ?_, ?_, ?_⟩, ?_, ?_, ?_, ?_, ⟨?_, ?_, ?_, ?_⟩, ?_, ?_, ?_, ?_, ?_, ?_⟩
  all_goals first
    | (rw [xu_ne _ _ (by decide)]; assumption)
    | (intro q hq; rw [xu_ne _ _ (by omega)]; exact hB q hq)
theorem OS_forget (h : OS Bk z S xs ys pj ds cm wt jd rt pl us fs ga ns as t gg m ld) (xs' ys' : List Int32) : OS Bk z (xu (xu (xu (xu S 2 (.inl xs')) 4 (.inl ys')) 6 (.inr (.inr (3, [.ref (z + 1), .ref (z + 7), .ref (z + 9), .ref (z + 11), .ref (z + 13), .int 0, .int rt])))) 0 (.inr (.inr (9, [.ref (z + 1), .ref (z + 6), .ref (z + 15), .ref (z + 30), .ref (z + 37), .ref (z + 44), .ref (z + 47), .int 0])))) xs' ys' pj ds cm wt 0 rt pl us fs ga ns as t gg m 0 := by
  obtain ⟨h0, ⟨j1, j2, j3, j4, j5, j6, j7, j8⟩, ⟨i1, i2, i3, i4, i5, i6, i7, i8, i9⟩, h30, h31, h33, h35, ⟨g1, g2, g3, g4⟩, h44, h48, h45, h46, h47, hB⟩ := h
  refine ⟨xu_self .., ⟨?_, ?_, ?_, ?_, ?_, ?_, ?_, ?_⟩, ⟨?_, ?_, ?_, ?_, ?_, ?_, ?_, ?_, ?_⟩, ?_, ?_, ?_, ?_, ⟨?_, ?_, ?_, ?_⟩, ?_, ?_, ?_, ?_, ?_, ?_⟩
  all_goals first
    | (intro q hq; repeat rw [xu_ne _ _ (by omega)]
       exact hB q hq)
    | (simp only [xu]; simp; try assumption)
end OSS
