/-! THE IMPROVER'S STEP over the instructions written so far, the last one first -/
/-- what comes in place of how many -/
def q_act (x y w i : II) : List II × Nat :=
  if i.1 = 5 ∨ i.1 = 6 then
    (if x.1 = 0 then ([(0, if i.1 = 5 then -x.2 else x.2 ^^^ (-1))], 1) else if x.1 = i.1 then ([], 1) else if x.1 = 8 ∧ i.1 = 6 then ([(8, a_opp x.2)], 1) else ([i], 0))
  else if i.1 = 7 then
    (if ¬ x.1 = 0 then ([i], 0) else if a_alone i.2 x.2 = true then ([], 1) else if ¬ y.1 = 0 ∨ (x.2 = 0 ∧ a_divides i.2 = true) then ([i], 0) else ([(0, a_calc i.2 y.2 x.2)], 2))
  else if i.1 = 8 then
    (if ¬ x.1 = 0 then ([i], 0) else if y.1 = 0 then ([(0, a_compare i.2 y.2 x.2)], 2) else if y.1 = 8 ∧ x.2 = 0 ∧ i.2 < 2 then ([(8, if i.2 = 0 then a_opp y.2 else y.2)], 2) else ([i], 0))
  else if i.1 = 14 then
    (if x.1 = 5 ∨ x.1 = 6 then ([i], 1) else if x.1 = 0 ∨ x.1 = 1 then ([], 1) else ([i], 0))
  else if i.1 = 11 ∨ i.1 = 12 then
    (if x.1 = 0 then (if (x.2 = 0 ↔ i.1 = 11) then ([(10, i.2)], 1) else ([], 1)) else if x.1 = 5 then ([i], 1) else if x.1 = 8 ∧ x.2 < 2 ∧ y.1 = 0 ∧ y.2 = 0 then ([(if x.2 = 0 then p_other i.1 else i.1, i.2)], 2) else ([i], 0))
  else if i.1 = 13 then
    (if x.1 = 10 then (if x.2 = i.2 then ([i], 1) else if t_cond y.1 = true ∧ y.2 = i.2 ∧ ¬ w.1 = 18 then ([i, (p_other y.1, x.2)], 2) else ([i], 0))
     else if t_cond x.1 = true ∧ x.2 = i.2 ∧ ¬ y.1 = 18 then ([i, (14, 0)], 1) else ([i], 0))
  else ([i], 0)
def q_put (p : List II × Nat) (r : List II) : List II := p.1 ++ r.drop p.2
def q_step (r : List II) (i : II) : List II := q_put (q_act (q0 r 0) (q0 r 1) (q0 r 2) i) r
abbrev k6 (c : Int32) : Prop := c = 0 ∨ c = 1 ∨ c = 2 ∨ c = 3 ∨ c = 4 ∨ c = 5
/-- arithmetic behind the folds -/
theorem a_alone_eq {k x y : Int32} (h : a_alone k y = true) : ¬ (y = 0 ∧ a_divides k = true) ∧ a_calc k x y = x := by
  have hz : ¬ a_sh 0 = true := by decide
  unfold a_alone at h
  by_cases h2 : k = 2
  · subst h2
    simp at h
    subst h
    refine ⟨by decide, ?_⟩
    show x * 1 = x
    simp
  by_cases h3 : k = 3
  · subst h3
    simp at h
    subst h
    refine ⟨by decide, ?_⟩
    show x / 1 = x
    exact Int32.div_one
  rw [if_neg (by rintro (w | w) <;> contradiction)] at h
  by_cases h4 : k = 4
  · rw [if_pos h4] at h; cases h
  rw [if_neg h4] at h
  have hd : a_divides k = false := by simp [a_divides, h3, h4]
  refine ⟨by rw [hd]; simp, ?_⟩
  by_cases h5 : k = 5
  · subst h5
    simp at h
    subst h
    show x &&& -1 = x
    simp
  by_cases h7 : k = 7
  · subst h7
    simp at h
    subst h
    show (x ^^^ (-1)) ^^^ (-1) = x
    rw [Int32.xor_assoc, show ((-1 : Int32) ^^^ (-1)) = 0 from by decide]
    simp
  rw [if_neg (by rintro (w | w) <;> contradiction)] at h
  have hy : y = 0 := of_decide_eq_true h
  subst hy
  unfold a_calc
  rw [if_neg h2, if_neg h3, if_neg h4, if_neg h5, if_neg h7, if_neg hz, if_neg hz]
  have e1 : x <<< ((0 : Int32) &&& 31) = x := by
    rw [show ((0 : Int32) &&& 31) = 0 from by decide]; simp
  have e2 : (x.toUInt32 >>> ((0 : Int32).toUInt32 &&& Int32.toUInt32 31)).toInt32 = x := by
    rw [show ((0 : Int32).toUInt32 &&& Int32.toUInt32 31) = 0 from by decide]; simp
  rw [e1, e2]
  repeat' (split)
  all_goals simp
theorem a_opp_holds {c x y : Int32} (h : k6 c) : a_holds (a_opp c) x y = !a_holds c x y := by
  rcases h with rfl | rfl | rfl | rfl | rfl | rfl
  · show decide (¬ x = y) = !decide (x = y); simp
  · show decide (x = y) = !decide (¬ x = y); simp
  · exact decide_not
  · show decide (y < x) = !decide (¬ y < x); rw [decide_not, Bool.not_not]
  · exact decide_not
  · show decide (x < y) = !decide (¬ x < y); rw [decide_not, Bool.not_not]
theorem a_opp_cmp {c x y : Int32} (h : k6 c) : a_compare (a_opp c) x y = a_compare c x y ^^^ (-1) := by
  unfold a_compare
  rw [a_opp_holds h]
  cases a_holds c x y <;> decide
theorem a_cmp_ne {c x y : Int32} : a_compare c x y = -1 ∨ a_compare c x y = 0 := by
  unfold a_compare
  cases a_holds c x y
  · right; rfl
  · left; rfl
theorem k6_opp {c : Int32} (h : k6 c) : k6 (a_opp c) := by
  rcases h with rfl | rfl | rfl | rfl | rfl | rfl <;> decide
theorem a_cmp_two {c k x y : Int32} (h : k6 c) (hk : k6 k) (h2 : k < 2) : a_compare k (a_compare c x y) 0 = a_compare (if k = 0 then a_opp c else c) x y := by
  have hk2 : k = 0 ∨ k = 1 := by
    rcases hk with rfl | rfl | rfl | rfl | rfl | rfl
    · exact .inl rfl
    · exact .inr rfl
    all_goals exact absurd h2 (by decide)
  rcases hk2 with rfl | rfl
  · rw [if_pos rfl, a_opp_cmp h]
    rcases a_cmp_ne (c := c) (x := x) (y := y) with e | e <;> rw [e] <;> decide
  · rw [if_neg (by decide)]
    rcases a_cmp_ne (c := c) (x := x) (y := y) with e | e <;> rw [e] <;> decide
theorem neg_zero_iff {x : Int32} : -x = 0 ↔ x = 0 := by
  constructor
  · intro h
    have : - -x = -(0 : Int32) := by rw [h]
    simpa using this
  · rintro rfl; rfl
/-- the rules of the folds; true where what lies ahead must not be an 18 -/
abbrev Rule (u : Bool) (o w : List II) : Prop :=
  (∃ (i : II), u = false ∧ o = [i] ∧ w = [i]) ∨
  (∃ (b : Int32) (k : Int32), u = false ∧ o = [(5, k), (0, b)] ∧ w = [(0, -b)]) ∨
  (∃ (b : Int32) (k : Int32), u = false ∧ o = [(6, k), (0, b)] ∧ w = [(0, b ^^^ (-1))]) ∨
  (∃ (b : Int32) (k : Int32), u = false ∧ o = [(5, k), (5, b)] ∧ w = []) ∨
  (∃ (b : Int32) (k : Int32), u = false ∧ o = [(6, k), (6, b)] ∧ w = []) ∨
  (∃ (b : Int32) (k : Int32), u = false ∧ o = [(6, k), (8, b)] ∧ w = [(8, a_opp b)] ∧ (k6 b)) ∨
  (∃ (b : Int32) (k : Int32), u = false ∧ o = [(7, k), (0, b)] ∧ w = [] ∧ (a_alone k b = true)) ∨
  (∃ (b : Int32) (k : Int32) (b2 : Int32), u = false ∧ o = [(7, k), (0, b), (0, b2)] ∧ w = [(0, a_calc k b2 b)] ∧ (¬ (b = 0 ∧ a_divides k = true))) ∨
  (∃ (b : Int32) (k : Int32) (b2 : Int32), u = false ∧ o = [(8, k), (0, b), (0, b2)] ∧ w = [(0, a_compare k b2 b)]) ∨
  (∃ (k : Int32) (b2 : Int32), u = false ∧ o = [(8, k), (0, 0), (8, b2)] ∧ w = [(8, if k = 0 then a_opp b2 else b2)] ∧ (k < 2) ∧ (k6 k) ∧ (k6 b2)) ∨
  (∃ (b : Int32) (k : Int32), u = false ∧ o = [(14, k), (5, b)] ∧ w = [(14, k)]) ∨
  (∃ (b : Int32) (k : Int32), u = false ∧ o = [(14, k), (6, b)] ∧ w = [(14, k)]) ∨
  (∃ (b : Int32) (k : Int32), u = false ∧ o = [(14, k), (0, b)] ∧ w = []) ∨
  (∃ (b : Int32) (k : Int32), u = false ∧ o = [(14, k), (1, b)] ∧ w = []) ∨
  (∃ (n : Int32) (b : Int32) (k : Int32), u = false ∧ o = [(n, k), (0, b)] ∧ w = [(10, k)] ∧ (n = 11 ∨ n = 12) ∧ (b = 0 ↔ n = 11)) ∨
  (∃ (n : Int32) (b : Int32) (k : Int32), u = false ∧ o = [(n, k), (0, b)] ∧ w = [] ∧ (n = 11 ∨ n = 12) ∧ (¬ (b = 0 ↔ n = 11))) ∨
  (∃ (n : Int32) (b : Int32) (k : Int32), u = false ∧ o = [(n, k), (5, b)] ∧ w = [(n, k)] ∧ (n = 11 ∨ n = 12)) ∨
  (∃ (n : Int32) (b : Int32) (k : Int32), u = false ∧ o = [(n, k), (8, b), (0, 0)] ∧ w = [(if b = 0 then p_other n else n, k)] ∧ (n = 11 ∨ n = 12) ∧ (b = 0 ∨ b = 1)) ∨
  (∃ (k : Int32), u = false ∧ o = [(13, k), (10, k)] ∧ w = [(13, k)]) ∨
  (∃ (n : Int32) (b : Int32) (k : Int32), u = true ∧ o = [(13, k), (10, b), (n, k)] ∧ w = [(13, k), (p_other n, b)] ∧ (n = 11 ∨ n = 12)) ∨
  (∃ (n : Int32) (k : Int32), u = true ∧ o = [(13, k), (n, k)] ∧ w = [(13, k), (14, 0)] ∧ (n = 11 ∨ n = 12))
theorem Rule.id (i : II) : Rule false [i] [i] := Or.inl ⟨i, rfl, rfl, rfl⟩
theorem Rule.neg (b : Int32) (k : Int32) : Rule false [(5, k), (0, b)] [(0, -b)] := Or.inr (.inl ⟨b, k, rfl, rfl, rfl⟩)
theorem Rule.inv (b : Int32) (k : Int32) : Rule false [(6, k), (0, b)] [(0, b ^^^ (-1))] := Or.inr (.inr (.inl ⟨b, k, rfl, rfl, rfl⟩))
theorem Rule.neg2 (b : Int32) (k : Int32) : Rule false [(5, k), (5, b)] [] := Or.inr (.inr (.inr (.inl ⟨b, k, rfl, rfl, rfl⟩)))
theorem Rule.inv2 (b : Int32) (k : Int32) : Rule false [(6, k), (6, b)] [] := Or.inr (.inr (.inr (.inr (.inl ⟨b, k, rfl, rfl, rfl⟩))))
theorem Rule.invc (b : Int32) (k : Int32) (h : k6 b) : Rule false [(6, k), (8, b)] [(8, a_opp b)] := Or.inr (.inr (.inr (.inr (.inr (.inl ⟨b, k, rfl, rfl, rfl, h⟩)))))
theorem Rule.alone (b : Int32) (k : Int32) (h : a_alone k b = true) : Rule false [(7, k), (0, b)] [] := Or.inr (.inr (.inr (.inr (.inr (.inr (.inl ⟨b, k, rfl, rfl, rfl, h⟩))))))
theorem Rule.clc (b : Int32) (k : Int32) (b2 : Int32) (h : ¬ (b = 0 ∧ a_divides k = true)) : Rule false [(7, k), (0, b), (0, b2)] [(0, a_calc k b2 b)] := Or.inr (.inr (.inr (.inr (.inr (.inr (.inr (.inl ⟨b, k, b2, rfl, rfl, rfl, h⟩)))))))
theorem Rule.comp (b : Int32) (k : Int32) (b2 : Int32) : Rule false [(8, k), (0, b), (0, b2)] [(0, a_compare k b2 b)] := Or.inr (.inr (.inr (.inr (.inr (.inr (.inr (.inr (.inl ⟨b, k, b2, rfl, rfl, rfl⟩))))))))
theorem Rule.comp2 (k : Int32) (b2 : Int32) (h : k < 2) (h1 : k6 k) (h2 : k6 b2) : Rule false [(8, k), (0, 0), (8, b2)] [(8, if k = 0 then a_opp b2 else b2)] := Or.inr (.inr (.inr (.inr (.inr (.inr (.inr (.inr (.inr (.inl ⟨k, b2, rfl, rfl, rfl, h, h1, h2⟩)))))))))
theorem Rule.drop5 (b : Int32) (k : Int32) : Rule false [(14, k), (5, b)] [(14, k)] := Or.inr (.inr (.inr (.inr (.inr (.inr (.inr (.inr (.inr (.inr (.inl ⟨b, k, rfl, rfl, rfl⟩))))))))))
theorem Rule.drop6 (b : Int32) (k : Int32) : Rule false [(14, k), (6, b)] [(14, k)] := Or.inr (.inr (.inr (.inr (.inr (.inr (.inr (.inr (.inr (.inr (.inr (.inl ⟨b, k, rfl, rfl, rfl⟩)))))))))))
theorem Rule.drop0 (b : Int32) (k : Int32) : Rule false [(14, k), (0, b)] [] := Or.inr (.inr (.inr (.inr (.inr (.inr (.inr (.inr (.inr (.inr (.inr (.inr (.inl ⟨b, k, rfl, rfl, rfl⟩))))))))))))
theorem Rule.drop1 (b : Int32) (k : Int32) : Rule false [(14, k), (1, b)] [] := Or.inr (.inr (.inr (.inr (.inr (.inr (.inr (.inr (.inr (.inr (.inr (.inr (.inr (.inl ⟨b, k, rfl, rfl, rfl⟩)))))))))))))
theorem Rule.const1 (n : Int32) (b : Int32) (k : Int32) (hn : n = 11 ∨ n = 12) (h : b = 0 ↔ n = 11) : Rule false [(n, k), (0, b)] [(10, k)] := Or.inr (.inr (.inr (.inr (.inr (.inr (.inr (.inr (.inr (.inr (.inr (.inr (.inr (.inr (.inl ⟨n, b, k, rfl, rfl, rfl, hn, h⟩))))))))))))))
theorem Rule.const0 (n : Int32) (b : Int32) (k : Int32) (hn : n = 11 ∨ n = 12) (h : ¬ (b = 0 ↔ n = 11)) : Rule false [(n, k), (0, b)] [] := Or.inr (.inr (.inr (.inr (.inr (.inr (.inr (.inr (.inr (.inr (.inr (.inr (.inr (.inr (.inr (.inl ⟨n, b, k, rfl, rfl, rfl, hn, h⟩)))))))))))))))
theorem Rule.cneg (n : Int32) (b : Int32) (k : Int32) (hn : n = 11 ∨ n = 12) : Rule false [(n, k), (5, b)] [(n, k)] := Or.inr (.inr (.inr (.inr (.inr (.inr (.inr (.inr (.inr (.inr (.inr (.inr (.inr (.inr (.inr (.inr (.inl ⟨n, b, k, rfl, rfl, rfl, hn⟩))))))))))))))))
theorem Rule.zero (n : Int32) (b : Int32) (k : Int32) (hn : n = 11 ∨ n = 12) (h : b = 0 ∨ b = 1) : Rule false [(n, k), (8, b), (0, 0)] [(if b = 0 then p_other n else n, k)] := Or.inr (.inr (.inr (.inr (.inr (.inr (.inr (.inr (.inr (.inr (.inr (.inr (.inr (.inr (.inr (.inr (.inr (.inl ⟨n, b, k, rfl, rfl, rfl, hn, h⟩)))))))))))))))))
theorem Rule.lgo (k : Int32) : Rule false [(13, k), (10, k)] [(13, k)] := Or.inr (.inr (.inr (.inr (.inr (.inr (.inr (.inr (.inr (.inr (.inr (.inr (.inr (.inr (.inr (.inr (.inr (.inr (.inl ⟨k, rfl, rfl, rfl⟩))))))))))))))))))
theorem Rule.lcgo (n : Int32) (b : Int32) (k : Int32) (hn : n = 11 ∨ n = 12) : Rule true [(13, k), (10, b), (n, k)] [(13, k), (p_other n, b)] := Or.inr (.inr (.inr (.inr (.inr (.inr (.inr (.inr (.inr (.inr (.inr (.inr (.inr (.inr (.inr (.inr (.inr (.inr (.inr (.inl ⟨n, b, k, rfl, rfl, rfl, hn⟩)))))))))))))))))))
theorem Rule.lcond (n : Int32) (k : Int32) (hn : n = 11 ∨ n = 12) : Rule true [(13, k), (n, k)] [(13, k), (14, 0)] := Or.inr (.inr (.inr (.inr (.inr (.inr (.inr (.inr (.inr (.inr (.inr (.inr (.inr (.inr (.inr (.inr (.inr (.inr (.inr (.inr (⟨n, k, rfl, rfl, rfl, hn⟩))))))))))))))))))))
/-- every step is one of the rules -/
theorem q_step_rule {r : List II} {i : II} (hf : ∀ j ∈ i :: r, j.1 = 8 → k6 j.2) : ∃ (u : Bool) (o n p : List II), i :: r = o ++ p ∧ q_step r i = n ++ p ∧ Rule u o n ∧ (u = true → ¬ (q0 p 0).1 = 18) := by
  obtain ⟨n, k⟩ := i
  have hsame : ∃ (u : Bool) (o q p : List II), (n, k) :: r = o ++ p ∧ (n, k) :: r = q ++ p ∧ Rule u o q ∧ (u = true → ¬ (q0 p 0).1 = 18) := ⟨false, [(n, k)], [(n, k)], r, rfl, rfl, Rule.id _, by simp⟩
  unfold q_step q_act
  simp only
  by_cases h56 : n = 5 ∨ n = 6
  · rw [if_pos h56]
    cases r with
    | nil => rw [if_neg (by decide), if_neg (by rcases h56 with rfl | rfl <;> decide), if_neg (by rintro ⟨w, -⟩; revert w; decide)]; exact hsame
    | cons j r =>
      obtain ⟨a, b⟩ := j
      simp only [q0, List.getD_cons_zero]
      by_cases ha : a = 0
      · subst ha
        rw [if_pos rfl]
        rcases h56 with rfl | rfl
        · exact ⟨false, _, _, r, rfl, rfl, Rule.neg b k, by simp⟩
        · exact ⟨false, _, _, r, rfl, rfl, Rule.inv b k, by simp⟩
      rw [if_neg ha]
      by_cases hn : a = n
      · subst hn
        rw [if_pos rfl]
        rcases h56 with rfl | rfl
        · exact ⟨false, _, [], r, rfl, rfl, Rule.neg2 b k, by simp⟩
        · exact ⟨false, _, [], r, rfl, rfl, Rule.inv2 b k, by simp⟩
      rw [if_neg hn]
      by_cases h8 : a = 8 ∧ n = 6
      · rw [if_pos h8]
        obtain ⟨rfl, rfl⟩ := h8
        exact ⟨false, _, _, r, rfl, rfl, Rule.invc b k (hf (8, b) (by simp) rfl), by simp⟩
      · rw [if_neg h8]; exact hsame
  rw [if_neg h56]
  by_cases h7 : n = 7
  · rw [if_pos h7]
    cases r with
    | nil => rw [if_pos (by decide)]; exact hsame
    | cons j r =>
      obtain ⟨a, b⟩ := j
      simp only [q0, List.getD_cons_zero, List.getD_cons_succ]
      by_cases ha : a = 0
      · rw [if_neg (fun w => w ha)]
        by_cases hal : a_alone k b = true
        · rw [if_pos hal]
          subst ha h7
          exact ⟨false, _, [], r, rfl, rfl, Rule.alone b k hal, by simp⟩
        rw [if_neg hal]
        cases r with
        | nil => rw [if_pos (by left; decide)]; exact hsame
        | cons j r =>
          obtain ⟨a2, b2⟩ := j
          simp only [List.getD_cons_zero]
          by_cases hc : ¬ a2 = 0 ∨ (b = 0 ∧ a_divides k = true)
          · rw [if_pos hc]; exact hsame
          · rw [if_neg hc]
            have hc1 : a2 = 0 := Decidable.not_not.mp (fun w => hc (.inl w))
            subst ha h7 hc1
            exact ⟨false, _, _, r, rfl, rfl, Rule.clc b k b2 (fun w => hc (.inr w)), by simp⟩
      · rw [if_pos ha]; exact hsame
  rw [if_neg h7]
  by_cases h8 : n = 8
  · rw [if_pos h8]
    subst h8
    have hk6 : k6 k := hf (8, k) (by simp) rfl
    cases r with
    | nil => rw [if_pos (by decide)]; exact hsame
    | cons j r =>
      obtain ⟨a, b⟩ := j
      simp only [q0, List.getD_cons_zero, List.getD_cons_succ]
      by_cases ha : a = 0
      · rw [if_neg (fun w => w ha)]
        cases r with
        | nil => rw [if_neg (by decide), if_neg (by rintro ⟨w, -⟩; revert w; decide)]; exact hsame
        | cons j r =>
          obtain ⟨a2, b2⟩ := j
          simp only [List.getD_cons_zero]
          by_cases hc : a2 = 0
          · rw [if_pos hc]
            subst ha hc
            exact ⟨false, _, _, r, rfl, rfl, Rule.comp b k b2, by simp⟩
          rw [if_neg hc]
          by_cases hd : a2 = 8 ∧ b = 0 ∧ k < 2
          · rw [if_pos hd]
            obtain ⟨h1, h2, hk2⟩ := hd
            subst ha h1 h2
            exact ⟨false, _, _, r, rfl, rfl, Rule.comp2 k b2 hk2 hk6 (hf (8, b2) (by simp) rfl), by simp⟩
          · rw [if_neg hd]; exact hsame
      · rw [if_pos ha]; exact hsame
  rw [if_neg h8]
  by_cases h14 : n = 14
  · rw [if_pos h14]
    subst h14
    cases r with
    | nil => rw [if_neg (by decide), if_neg (by decide)]; exact hsame
    | cons j r =>
      obtain ⟨a, b⟩ := j
      simp only [q0, List.getD_cons_zero]
      by_cases ha : a = 5 ∨ a = 6
      · rw [if_pos ha]
        rcases ha with rfl | rfl
        · exact ⟨false, _, [(14, k)], r, rfl, rfl, Rule.drop5 b k, by simp⟩
        · exact ⟨false, _, [(14, k)], r, rfl, rfl, Rule.drop6 b k, by simp⟩
      rw [if_neg ha]
      by_cases hb : a = 0 ∨ a = 1
      · rw [if_pos hb]
        rcases hb with rfl | rfl
        · exact ⟨false, _, [], r, rfl, rfl, Rule.drop0 b k, by simp⟩
        · exact ⟨false, _, [], r, rfl, rfl, Rule.drop1 b k, by simp⟩
      · rw [if_neg hb]; exact hsame
  rw [if_neg h14]
  by_cases hc12 : n = 11 ∨ n = 12
  · rw [if_pos hc12]
    cases r with
    | nil => rw [if_neg (by decide), if_neg (by decide), if_neg (by rintro ⟨w, -⟩; revert w; decide)]; exact hsame
    | cons j r =>
      obtain ⟨a, b⟩ := j
      simp only [q0, List.getD_cons_zero, List.getD_cons_succ]
      by_cases ha : a = 0
      · rw [if_pos ha]
        by_cases hb : (b = 0 ↔ n = 11)
        · rw [if_pos hb]
          subst ha
          exact ⟨false, _, _, r, rfl, rfl, Rule.const1 n b k hc12 hb, by simp⟩
        · rw [if_neg hb]
          subst ha
          exact ⟨false, _, [], r, rfl, rfl, Rule.const0 n b k hc12 hb, by simp⟩
      rw [if_neg ha]
      by_cases h5 : a = 5
      · rw [if_pos h5]
        subst h5
        exact ⟨false, _, [(n, k)], r, rfl, rfl, Rule.cneg n b k hc12, by simp⟩
      rw [if_neg h5]
      cases r with
      | nil => rw [if_neg (by rintro ⟨-, -, w, -⟩; revert w; decide)]; exact hsame
      | cons j r =>
        obtain ⟨a2, b2⟩ := j
        simp only [List.getD_cons_zero]
        by_cases hd : a = 8 ∧ b < 2 ∧ a2 = 0 ∧ b2 = 0
        · rw [if_pos hd]
          obtain ⟨h1, hb2, h3, h4⟩ := hd
          subst h1 h3 h4
          have hb6 : k6 b := hf (8, b) (by simp) rfl
          have hb01 : b = 0 ∨ b = 1 := by
            rcases hb6 with rfl | rfl | rfl | rfl | rfl | rfl
            · exact .inl rfl
            · exact .inr rfl
            all_goals exact absurd hb2 (by decide)
          exact ⟨false, _, _, r, rfl, rfl, Rule.zero n b k hc12 hb01, by simp⟩
        · rw [if_neg hd]; exact hsame
  rw [if_neg hc12]
  by_cases hl : n = 13
  · rw [if_pos hl]
    subst hl
    cases r with
    | nil => rw [if_neg (by decide), if_neg (by rintro ⟨w, -⟩; revert w; decide)]; exact hsame
    | cons j r =>
      obtain ⟨a, b⟩ := j
      simp only [q0, List.getD_cons_zero, List.getD_cons_succ]
      by_cases ha : a = 10
      · rw [if_pos ha]
        subst ha
        by_cases hb : b = k
        · rw [if_pos hb]
          subst hb
          exact ⟨false, _, [(13, b)], r, rfl, rfl, Rule.lgo b, by simp⟩
        rw [if_neg hb]
        cases r with
        | nil => rw [if_neg (by rintro ⟨w, -⟩; revert w; decide)]; exact hsame
        | cons j r =>
          obtain ⟨a2, b2⟩ := j
          simp only [List.getD_cons_zero, List.getD_cons_succ]
          by_cases hd : t_cond a2 = true ∧ b2 = k ∧ ¬ (r.getD 0 (-1, -1)).1 = 18
          · rw [if_pos hd]
            obtain ⟨h1, h2, h3⟩ := hd
            subst h2
            exact ⟨true, _, [(13, b2), (p_other a2, b)], r, rfl, rfl, Rule.lcgo a2 b b2 (by simpa [t_cond] using h1), fun _ => h3⟩
          · rw [if_neg hd]; exact hsame
      rw [if_neg ha]
      by_cases hd : t_cond a = true ∧ b = k ∧ ¬ (r.getD 0 (-1, -1)).1 = 18
      · rw [if_pos hd]
        obtain ⟨h1, h2, h3⟩ := hd
        subst h2
        exact ⟨true, _, [(13, b), (14, 0)], r, rfl, rfl, Rule.lcond a b (by simpa [t_cond] using h1), fun _ => h3⟩
      · rw [if_neg hd]; exact hsame
  rw [if_neg hl]
  exact hsame
/-- a rule changes nothing in what is done -/
theorem rule_sem {Λ : Int32 → KK} {u : Bool} {o n : List II} (R : Rule u o n) {κ : KK} (h13 : ∀ k, o.head? = some (13, k) → ∀ σ : Sg, σ.pd = none → Ole (Λ k σ) (κ σ)) (σ : Sg) (hσ : u = true → σ.pd = none) : Ole (rk Λ o κ σ) (rk Λ n κ σ) := by
  obtain ⟨st, pd, L, V, f⟩ := σ
  rcases R with ⟨i, rfl, rfl, rfl⟩ | ⟨b, k, rfl, rfl, rfl⟩ | ⟨b, k, rfl, rfl, rfl⟩ | ⟨b, k, rfl, rfl, rfl⟩ | ⟨b, k, rfl, rfl, rfl⟩ | ⟨b, k, rfl, rfl, rfl, h⟩ | ⟨b, k, rfl, rfl, rfl, h⟩ | ⟨b, k, b2, rfl, rfl, rfl, h⟩ | ⟨b, k, b2, rfl, rfl, rfl⟩ | ⟨k, b2, rfl, rfl, rfl, h, h1, h2⟩ | ⟨b, k, rfl, rfl, rfl⟩ | ⟨b, k, rfl, rfl, rfl⟩ | ⟨b, k, rfl, rfl, rfl⟩ | ⟨b, k, rfl, rfl, rfl⟩ | ⟨n, b, k, rfl, rfl, rfl, hn, h⟩ | ⟨n, b, k, rfl, rfl, rfl, hn, h⟩ | ⟨n, b, k, rfl, rfl, rfl, hn⟩ | ⟨n, b, k, rfl, rfl, rfl, hn, h⟩ | ⟨k, rfl, rfl, rfl⟩ | ⟨n, b, k, rfl, rfl, rfl, hn⟩ | ⟨n, k, rfl, rfl, rfl, hn⟩
  · exact Ole.refl _
  · simp only [rk]
    cases pd with
    | some q => rw [one_pd _ _ _ _ _ _ _ (by decide)]; exact Ole.none _
    | none => rw [one_0, one_5, one_0, s_pp, s_psh0]; exact Ole.refl _
  · simp only [rk]
    cases pd with
    | some q => rw [one_pd _ _ _ _ _ _ _ (by decide)]; exact Ole.none _
    | none => rw [one_0, one_6, one_0, s_pp, s_psh0]; exact Ole.refl _
  · simp only [rk]
    cases pd with
    | some q => rw [one_pd _ _ _ _ _ _ _ (by decide)]; exact Ole.none _
    | none => rw [one_5, one_5, s_pp, s_psh0, Int32.neg_neg, s_eta]; exact Ole.refl _
  · simp only [rk]
    cases pd with
    | some q => rw [one_pd _ _ _ _ _ _ _ (by decide)]; exact Ole.none _
    | none => rw [one_6, one_6, s_pp, s_psh0, Int32.xor_assoc, show ((-1 : Int32) ^^^ (-1)) = 0 from by decide, Int32.xor_zero, s_eta]; exact Ole.refl _
  · simp only [rk]
    cases pd with
    | some q => rw [one_pd _ _ _ _ _ _ _ (by decide)]; exact Ole.none _
    | none => rw [one_8, one_6, one_8, s_pp, s_psh0, a_opp_cmp h]; exact Ole.refl _
  · simp only [rk]
    cases pd with
    | some q => rw [one_pd _ _ _ _ _ _ _ (by decide)]; exact Ole.none _
    | none =>
      have := a_alone_eq (x := st 0) h
      rw [one_0, one_7, s_psh0, if_neg this.1, s_psh1, this.2, s_pp2, s_eta]; exact Ole.refl _
  · simp only [rk]
    cases pd with
    | some q => rw [one_pd _ _ _ _ _ _ _ (by decide)]; exact Ole.none _
    | none => rw [one_0, one_0, one_7, s_psh0, if_neg h, s_psh1, s_psh0, s_pp2, s_pp, one_0]; exact Ole.refl _
  · simp only [rk]
    cases pd with
    | some q => rw [one_pd _ _ _ _ _ _ _ (by decide)]; exact Ole.none _
    | none => rw [one_0, one_0, one_8, s_psh0, s_psh1, s_psh0, s_pp2, s_pp, one_0]; exact Ole.refl _
  · simp only [rk]
    cases pd with
    | some q => rw [one_pd _ _ _ _ _ _ _ (by decide)]; exact Ole.none _
    | none => rw [one_8, one_0, one_8, s_psh0, s_psh1, s_psh0, s_pp2, s_pp, one_8, a_cmp_two h2 h1 h]; exact Ole.refl _
  · simp only [rk]
    cases pd with
    | some q => rw [one_pd _ _ _ _ _ _ _ (by decide)]; exact Ole.none _
    | none => rw [one_5, one_14, s_pp, one_14]; exact Ole.refl _
  · simp only [rk]
    cases pd with
    | some q => rw [one_pd _ _ _ _ _ _ _ (by decide)]; exact Ole.none _
    | none => rw [one_6, one_14, s_pp, one_14]; exact Ole.refl _
  · simp only [rk]
    cases pd with
    | some q => rw [one_pd _ _ _ _ _ _ _ (by decide)]; exact Ole.none _
    | none => rw [one_0, one_14, s_pp]; exact Ole.refl _
  · simp only [rk]
    cases pd with
    | some q => rw [one_pd _ _ _ _ _ _ _ (by decide)]; exact Ole.none _
    | none => rw [one_1, one_14, s_pp]; exact Ole.refl _
  · simp only [rk]
    cases pd with
    | some q => rw [one_pd _ _ _ _ _ _ _ (by decide)]; exact Ole.none _
    | none =>
      rcases hn with rfl | rfl
      · rw [one_0, one_11, s_psh0, s_pp, if_pos (h.mpr rfl), one_10]; exact Ole.refl _
      · rw [one_0, one_12, s_psh0, s_pp, if_neg (fun w => absurd (h.mp w) (by decide)), one_10]; exact Ole.refl _
  · simp only [rk]
    cases pd with
    | some q => rw [one_pd _ _ _ _ _ _ _ (by decide)]; exact Ole.none _
    | none =>
      rcases hn with rfl | rfl
      · rw [one_0, one_11, s_psh0, s_pp, if_neg (fun w => h ⟨fun _ => rfl, fun _ => w⟩)]; exact Ole.refl _
      · rw [one_0, one_12, s_psh0, s_pp, if_pos (Decidable.not_not.mp (fun w => h ⟨fun w2 => absurd w2 w, fun w2 => absurd w2 (by decide)⟩))]; exact Ole.refl _
  · simp only [rk]
    cases pd with
    | some q => rw [one_pd _ _ _ _ _ _ _ (by decide)]; exact Ole.none _
    | none =>
      rcases hn with rfl | rfl
      · rw [one_5, one_11, s_psh0, s_pp, one_11]
        exact Ole.of_eq (by simp only [neg_zero_iff])
      · rw [one_5, one_12, s_psh0, s_pp, one_12]
        exact Ole.of_eq (by simp only [neg_zero_iff])
  · simp only [rk]
    cases pd with
    | some q => rw [one_pd _ _ _ _ _ _ _ (by decide)]; exact Ole.none _
    | none =>
      have c0 : a_compare 0 (st 0) 0 = 0 ↔ ¬ st 0 = 0 := by
        show (if decide (st 0 = 0) = true then (-1 : Int32) else 0) = 0 ↔ _
        by_cases w : st 0 = 0 <;> simp [w]
      have c1 : a_compare 1 (st 0) 0 = 0 ↔ st 0 = 0 := by
        show (if decide (¬ st 0 = 0) = true then (-1 : Int32) else 0) = 0 ↔ _
        by_cases w : st 0 = 0 <;> simp [w]
      rcases h with rfl | rfl <;> rcases hn with rfl | rfl
      · rw [one_0, one_8, one_11, s_psh0, s_psh1, s_pp, s_pp2, s_psh0]
        show Ole _ (one Λ (12, k) κ _)
        rw [one_12]
        refine Ole.of_eq ?_
        by_cases w : st 0 = 0
        · rw [if_neg (fun w2 => (c0.mp w2) w), if_pos w]
        · rw [if_pos (c0.mpr w), if_neg w]
      · rw [one_0, one_8, one_12, s_psh0, s_psh1, s_pp, s_pp2, s_psh0]
        show Ole _ (one Λ (11, k) κ _)
        rw [one_11]
        refine Ole.of_eq ?_
        by_cases w : st 0 = 0
        · rw [if_neg (fun w2 => (c0.mp w2) w), if_pos w]
        · rw [if_pos (c0.mpr w), if_neg w]
      · rw [one_0, one_8, one_11, s_psh0, s_psh1, s_pp, s_pp2, s_psh0]
        show Ole _ (one Λ (11, k) κ _)
        rw [one_11]
        refine Ole.of_eq ?_
        by_cases w : st 0 = 0
        · rw [if_pos (c1.mpr w), if_pos w]
        · rw [if_neg (fun w2 => w (c1.mp w2)), if_neg w]
      · rw [one_0, one_8, one_12, s_psh0, s_psh1, s_pp, s_pp2, s_psh0]
        show Ole _ (one Λ (12, k) κ _)
        rw [one_12]
        refine Ole.of_eq ?_
        by_cases w : st 0 = 0
        · rw [if_pos (c1.mpr w), if_pos w]
        · rw [if_neg (fun w2 => w (c1.mp w2)), if_neg w]
  · simp only [rk]
    cases pd with
    | some q => rw [one_pd _ _ _ _ _ _ _ (by decide)]; exact Ole.none _
    | none => rw [one_10, one_13]; exact h13 k rfl _ rfl
  · simp only [rk]
    have hσ : pd = none := hσ rfl
    subst hσ
    rcases hn with rfl | rfl
    · rw [one_11]
      show Ole _ (one Λ (12, b) _ _)
      rw [one_12, one_10, one_13]
      exact Ole.ite (fun _ => h13 k rfl _ rfl) (fun _ => Ole.refl _)
    · rw [one_12]
      show Ole _ (one Λ (11, b) _ _)
      rw [one_11, one_10, one_13]
      exact Ole.ite (fun _ => Ole.refl _) (fun _ => h13 k rfl _ rfl)
  · simp only [rk]
    have hσ : pd = none := hσ rfl
    subst hσ
    rcases hn with rfl | rfl
    · rw [one_11, one_14, one_13]
      by_cases w : st 0 = 0
      · rw [if_pos w]; exact h13 k rfl _ rfl
      · rw [if_neg w]; exact Ole.refl _
    · rw [one_12, one_14, one_13]
      by_cases w : st 0 = 0
      · rw [if_pos w]; exact Ole.refl _
      · rw [if_neg w]; exact h13 k rfl _ rfl
/-- a step changes nothing in what is done -/
theorem q_step_sem {Λ : Int32 → KK} {r : List II} {i : II} {κ : KK} (hf : ∀ j ∈ i :: r, j.1 = 8 → k6 j.2) (h13 : i.1 = 13 → ∀ σ : Sg, σ.pd = none → Ole (Λ i.2 σ) (κ σ)) (σ : Sg) (hσ : σ.pd = none) : Ole (rk Λ (i :: r) κ σ) (rk Λ (q_step r i) κ σ) := by
  obtain ⟨u, o, n, p, h1, h2, R, h4⟩ := q_step_rule hf
  have hh : ∀ k, o.head? = some (13, k) → ∀ σ : Sg, σ.pd = none → Ole (Λ k σ) (κ σ) := by
    intro k hk
    cases o with
    | nil => cases hk
    | cons j o =>
      have hj : j = (13, k) := by simpa using hk
      have hi : i = j := by
        have := congrArg List.head? h1
        simpa using this
      rw [hj] at hi
      subst hi
      exact h13 rfl
  rw [h1, h2, rk_app, rk_app]
  cases u with
  | true => exact rk_mono' (h4 rfl) (fun σ hσ => rule_sem R hh σ (fun _ => hσ)) σ hσ
  | false => exact rk_mono (fun σ => rule_sem R hh σ (fun w => by cases w)) σ
