/-! THE JUDGE against what is asked of a code: what is said of each instruction -/
theorem fit1_iff {n k : Int32} : j_fit1 n k = true ↔ fit2 n k := by
  unfold j_fit1
  rw [decide_eq_true_eq]
  by_cases h0 : n < 0
  · exact ⟨fun w => absurd h0 w.1, fun w => absurd h0 w.1.1⟩
  by_cases h1 : n < 21
  · obtain ⟨j, hj, rfl⟩ := nI_of h0
    have hj2 : j < 21 := (nI_ltI hj (by omega)).mp h1
    rw [nI_clamp hj]
    have k16 : (¬ k < 0 ∧ ¬ (15 : Int32) < k) ↔ (¬ k < 0 ∧ k < 16) := by
      constructor <;> rintro ⟨a, b⟩ <;> refine ⟨a, ?_⟩
      all_goals
        obtain ⟨x, hx, rfl⟩ := nI_of a
      · exact (nI_ltI hx (by omega) (b := 16)).mpr (by have : ¬ 15 < x := fun w => b ((nI_ltI (by omega) hx (a := 15)).mpr w); omega)
      · exact fun w => by have h1 := (nI_ltI hx (by omega) (b := 16)).mp b; have h2 := (nI_ltI (by omega) hx (a := 15)).mp w; omega
    have k11 : (¬ k < 0 ∧ ¬ (10 : Int32) < k) ↔ (¬ k < 0 ∧ k < 11) := by
      constructor <;> rintro ⟨a, b⟩ <;> refine ⟨a, ?_⟩
      all_goals
        obtain ⟨x, hx, rfl⟩ := nI_of a
      · exact (nI_ltI hx (by omega) (b := 11)).mpr (by have : ¬ 10 < x := fun w => b ((nI_ltI (by omega) hx (a := 10)).mpr w); omega)
      · exact fun w => by have h1 := (nI_ltI hx (by omega) (b := 11)).mp b; have h2 := (nI_ltI (by omega) hx (a := 10)).mp w; omega
    have k100 : (¬ k < 0 ∧ ¬ (99 : Int32) < k) ↔ (¬ k < 0 ∧ k < 100) := by
      constructor <;> rintro ⟨a, b⟩ <;> refine ⟨a, ?_⟩
      all_goals
        obtain ⟨x, hx, rfl⟩ := nI_of a
      · exact (nI_ltI hx (by omega) (b := 100)).mpr (by have : ¬ 99 < x := fun w => b ((nI_ltI (by omega) hx (a := 99)).mpr w); omega)
      · exact fun w => by have h1 := (nI_ltI hx (by omega) (b := 100)).mp b; have h2 := (nI_ltI (by omega) hx (a := 99)).mp w; omega
    have k5 : (¬ k < 0 ∧ ¬ (5 : Int32) < k) ↔ k6 k := by
      constructor
      · rintro ⟨a, b⟩
        obtain ⟨x, hx, rfl⟩ := nI_of a
        have : x < 6 := by have : ¬ 5 < x := fun w => b ((nI_ltI (by omega) hx (a := 5)).mpr w); omega
        have : x = 0 ∨ x = 1 ∨ x = 2 ∨ x = 3 ∨ x = 4 ∨ x = 5 := by omega
        rcases this with rfl | rfl | rfl | rfl | rfl | rfl <;> decide
      · rintro (rfl | rfl | rfl | rfl | rfl | rfl) <;> decide
    have hcases : j = 0 ∨ j = 1 ∨ j = 2 ∨ j = 3 ∨ j = 4 ∨ j = 5 ∨ j = 6 ∨ j = 7 ∨ j = 8 ∨ j = 9 ∨ j = 10 ∨ j = 11 ∨ j = 12 ∨ j = 13 ∨ j = 14 ∨ j = 15 ∨ j = 16 ∨ j = 17 ∨ j = 18 ∨ j = 19 ∨ j = 20 := by omega
    have free : ∀ n : Int32, (x_stat 0).2 n.toNatClampNeg < 0 → ¬ n < 0 → n < 21 → ¬ (n = 8 ∨ n = 9) → ¬ n = 7 → ¬ (n = 1 ∨ n = 2) → ¬ (t_goes n = true ∨ n = 13) → ((¬ n < 0 ∧ n < 21 ∧ ((x_stat 0).2 n.toNatClampNeg < 0 ∨ (¬ k < 0 ∧ ¬ (x_stat 0).2 n.toNatClampNeg < k))) ↔ fit2 n k) := by
      intro n a1 a2 a3 a4 a5 a6 a7
      exact ⟨fun _ => ⟨⟨a2, a3⟩, fun w => absurd w a4, fun w => absurd w a5, fun w => absurd w a6, fun w => absurd w a7⟩, fun _ => ⟨a2, a3, .inl a1⟩⟩
    have lim : ∀ (n : Int32) (q : Prop), ¬ n < 0 → n < 21 → ¬ (x_stat 0).2 n.toNatClampNeg < 0 → ((¬ k < 0 ∧ ¬ (x_stat 0).2 n.toNatClampNeg < k) ↔ q) → (fit2 n k ↔ q) → ((¬ n < 0 ∧ n < 21 ∧ ((x_stat 0).2 n.toNatClampNeg < 0 ∨ (¬ k < 0 ∧ ¬ (x_stat 0).2 n.toNatClampNeg < k))) ↔ fit2 n k) := by
      intro n q a1 a2 a3 a4 a5
      rw [a5, ← a4]
      exact ⟨fun w => w.2.2.resolve_left a3, fun w => ⟨a1, a2, .inr w⟩⟩
    have e0 : (nI j).toNatClampNeg = j := nI_clamp hj
    rw [← e0]
    rcases hcases with rfl | rfl | rfl | rfl | rfl | rfl | rfl | rfl | rfl | rfl | rfl | rfl | rfl | rfl | rfl | rfl | rfl | rfl | rfl | rfl | rfl
    · exact free _ (by decide) (by decide) (by decide) (by decide) (by decide) (by decide) (by decide)
    · exact lim (nI 1) _ (by decide) (by decide) (by decide) k16 ⟨fun w => w.2.2.2.1 (.inl rfl), fun w => ⟨by decide, fun q => absurd q (by decide), fun q => absurd q (by decide), fun _ => w, fun q => absurd q (by decide)⟩⟩
    · exact lim (nI 2) _ (by decide) (by decide) (by decide) k16 ⟨fun w => w.2.2.2.1 (.inr rfl), fun w => ⟨by decide, fun q => absurd q (by decide), fun q => absurd q (by decide), fun _ => w, fun q => absurd q (by decide)⟩⟩
    · exact free _ (by decide) (by decide) (by decide) (by decide) (by decide) (by decide) (by decide)
    · exact free _ (by decide) (by decide) (by decide) (by decide) (by decide) (by decide) (by decide)
    · exact free _ (by decide) (by decide) (by decide) (by decide) (by decide) (by decide) (by decide)
    · exact free _ (by decide) (by decide) (by decide) (by decide) (by decide) (by decide) (by decide)
    · exact lim (nI 7) _ (by decide) (by decide) (by decide) k11 ⟨fun w => w.2.2.1 rfl, fun w => ⟨by decide, fun q => absurd q (by decide), fun _ => w, fun q => absurd q (by decide), fun q => absurd q (by decide)⟩⟩
    · exact lim (nI 8) _ (by decide) (by decide) (by decide) k5 ⟨fun w => w.2.1 (.inl rfl), fun w => ⟨by decide, fun _ => w, fun q => absurd q (by decide), fun q => absurd q (by decide), fun q => absurd q (by decide)⟩⟩
    · exact lim (nI 9) _ (by decide) (by decide) (by decide) k5 ⟨fun w => w.2.1 (.inr rfl), fun w => ⟨by decide, fun _ => w, fun q => absurd q (by decide), fun q => absurd q (by decide), fun q => absurd q (by decide)⟩⟩
    · exact lim (nI 10) _ (by decide) (by decide) (by decide) k100 ⟨fun w => w.2.2.2.2 (.inl rfl), fun w => ⟨by decide, fun q => absurd q (by decide), fun q => absurd q (by decide), fun q => absurd q (by decide), fun _ => w⟩⟩
    · exact lim (nI 11) _ (by decide) (by decide) (by decide) k100 ⟨fun w => w.2.2.2.2 (.inl rfl), fun w => ⟨by decide, fun q => absurd q (by decide), fun q => absurd q (by decide), fun q => absurd q (by decide), fun _ => w⟩⟩
    · exact lim (nI 12) _ (by decide) (by decide) (by decide) k100 ⟨fun w => w.2.2.2.2 (.inl rfl), fun w => ⟨by decide, fun q => absurd q (by decide), fun q => absurd q (by decide), fun q => absurd q (by decide), fun _ => w⟩⟩
    · exact lim (nI 13) _ (by decide) (by decide) (by decide) k100 ⟨fun w => w.2.2.2.2 (.inr rfl), fun w => ⟨by decide, fun q => absurd q (by decide), fun q => absurd q (by decide), fun q => absurd q (by decide), fun _ => w⟩⟩
    · exact free _ (by decide) (by decide) (by decide) (by decide) (by decide) (by decide) (by decide)
    · exact free _ (by decide) (by decide) (by decide) (by decide) (by decide) (by decide) (by decide)
    · exact free _ (by decide) (by decide) (by decide) (by decide) (by decide) (by decide) (by decide)
    · exact free _ (by decide) (by decide) (by decide) (by decide) (by decide) (by decide) (by decide)
    · exact free _ (by decide) (by decide) (by decide) (by decide) (by decide) (by decide) (by decide)
    · exact free _ (by decide) (by decide) (by decide) (by decide) (by decide) (by decide) (by decide)
    · exact free _ (by decide) (by decide) (by decide) (by decide) (by decide) (by decide) (by decide)
  · exact ⟨fun w => absurd w.2.1 h1, fun w => absurd w.1.2 h1⟩
theorem fit_iff {c : List II} (hc : c.length < 2 ^ 28) : ∀ (d i : Nat), i + d = c.length → (j_fit (up c).1 (up c).2 d i = true ↔ fitA (c.drop i)) := by
  intro d
  induction d with
  | zero =>
    intro i hi
    rw [List.drop_eq_nil_of_le (by omega)]
    exact ⟨fun _ j hj => (by cases hj), fun _ => rfl⟩
  | succ d ih =>
    intro i hi
    obtain ⟨e1, e2⟩ := up_at (c := c) (i := i) (by omega)
    rw [j_fit, e1, e2, Bool.and_eq_true, fit1_iff, ih (i + 1) (by omega), drop_q0 (by omega : i < c.length)]
    constructor
    · rintro ⟨a, b⟩ j hj
      rcases List.mem_cons.mp hj with rfl | hj
      · exact a
      · exact b j hj
    · intro h
      exact ⟨h _ (List.mem_cons_self ..), fun j hj => h j (List.mem_cons_of_mem _ hj)⟩
/-- where the judge finds each label once, its places are the improver's -/
theorem once_places (xs ys : List Int32) : ∀ (d i : Nat) (pl : List Int32), (j_once xs ys d i pl).2 = true → (j_once xs ys d i pl).1 = p_places xs ys d i pl := by
  intro d
  induction d with
  | zero => intro i pl _; rfl
  | succ d ih =>
    intro i pl h
    rw [j_once] at h ⊢
    rw [p_places]
    by_cases c : nAt xs (nI i) = 13
    · rw [if_pos c] at h ⊢
      rw [if_pos c]
      by_cases c2 : nAt pl (nAt ys (nI i)) = -1
      · rw [if_pos c2] at h ⊢
        exact ih _ _ h
      · rw [if_neg c2] at h; cases h
    · rw [if_neg c] at h ⊢
      rw [if_neg c]
      exact ih _ _ h
/-- it does so just where the labels are there once; so far: those of p -/
theorem once_iff {c : List II} (hc : c.length < 2 ^ 28) (hf : fitA c) : ∀ (d i : Nat) (pl : List Int32), i + d = c.length → pl.length = 100 → (∀ k, ¬ k < 0 → k < 100 → (nAt pl k = -1 ↔ (13, k) ∉ c.take i)) → LU (c.take i) → ((j_once (up c).1 (up c).2 d i pl).2 = true ↔ LU c) := by
  intro d
  induction d with
  | zero =>
    intro i pl hi _ _ h
    rw [List.take_of_length_le (by omega)] at h
    exact ⟨fun _ => h, fun _ => rfl⟩
  | succ d ih =>
    intro i pl hi hl hp hLU
    have hlt : i < c.length := by omega
    obtain ⟨e1, e2⟩ := up_at (c := c) (i := i) (by omega)
    have ht : c.take (i + 1) = c.take i ++ [q0 c i] := by
      rw [List.take_succ_eq_append_getElem hlt]
      congr 2
      simp [q0, hlt]
    have hx : q0 c i ∈ c := by
      have : q0 c i ∈ c.drop i := by rw [drop_q0 hlt]; exact List.mem_cons_self ..
      exact List.mem_of_mem_drop this
    have hsplit : c = c.take i ++ q0 c i :: c.drop (i + 1) := by rw [← drop_q0 hlt]; exact (List.take_append_drop i c).symm
    rw [j_once, e1, e2]
    generalize hxe : q0 c i = x at *
    obtain ⟨a, k⟩ := x
    simp only
    by_cases h13 : a = 13
    · subst h13
      rw [if_pos rfl]
      have hk := (hf (13, k) hx).2.2.2.2 (.inr rfl)
      by_cases c2 : nAt pl k = -1
      · rw [if_pos c2]
        have hnot := (hp k hk.1 hk.2).mp c2
        refine ih (i + 1) _ (by omega) (by rw [nSet_len]; exact hl) ?_ ?_
        · intro k' hk1 hk2
          rw [nAt_set hk1 (by rw [hl]; exact lt100 hk1 hk2) hk.1, ht]
          by_cases e : k = k'
          · subst e
            rw [if_pos rfl]
            constructor
            · intro w; exact absurd w (nI_ne_neg (by omega))
            · intro w; exact absurd (by simp) w
          · rw [if_neg e, hp k' hk1 hk2]
            constructor
            · intro w w2
              rcases List.mem_append.mp w2 with w2 | w2
              · exact w w2
              · have := List.mem_singleton.mp w2
                exact e (Prod.mk.inj this).2.symm
            · intro w w2; exact w (List.mem_append_left _ w2)
        · rw [ht]
          unfold LU at hLU ⊢
          rw [List.filter_append, List.nodup_append]
          refine ⟨hLU, ?_, ?_⟩
          · rw [show [((13, k) : II)].filter lab = [(13, k)] from rfl]; simp
          · intro u hu v hv
            rw [show [((13, k) : II)].filter lab = [(13, k)] from rfl] at hv
            rw [List.mem_singleton.mp hv]
            rintro rfl
            exact hnot (List.mem_filter.mp hu).1
      · rw [if_neg c2]
        refine ⟨fun w => (by cases w), fun w => ?_⟩
        exfalso
        have hin : (13, k) ∈ c.take i := Decidable.not_not.mp (fun q => c2 ((hp k hk.1 hk.2).mpr q))
        rw [hsplit] at w
        exact LU_first w (13, k) hin ⟨rfl, rfl⟩
    · rw [if_neg h13]
      refine ih (i + 1) pl (by omega) hl ?_ ?_
      · intro k' hk1 hk2
        rw [hp k' hk1 hk2, ht]
        constructor
        · intro w w2
          rcases List.mem_append.mp w2 with w2 | w2
          · exact w w2
          · have := List.mem_singleton.mp w2
            exact h13 (Prod.mk.inj this).1.symm
        · intro w w2; exact w (List.mem_append_left _ w2)
      · rw [ht]
        unfold LU at hLU ⊢
        rw [List.filter_append]
        have : [((a, k) : II)].filter lab = [] := by simp [lab, h13]
        rw [this, List.append_nil]
        exact hLU
