/-! THE IMPROVER'S OWN PASS is such a pass -/
def up (c : List II) : List Int32 × List Int32 := (c.map Prod.fst, c.map Prod.snd)
theorem nI_subn {a b : Nat} (h : b ≤ a) : nI a - nI b = nI (a - b) := by
  have e : nI a = nI (a - b) + nI b := by rw [nI_add, Nat.sub_add_cancel h]
  rw [e, Int32.add_sub_cancel]
theorem nAt_nat {l : List Int32} {m : Nat} (h : m < 2 ^ 31) : nAt l (nI m) = l.getD m (-1) := by
  unfold nAt
  rw [if_neg (nI_pos h), nI_clamp h]
theorem p_l_rev {l : List Int32} {j : Nat} (hj : j ≤ 2) (hl : l.length < 2 ^ 30) : p_l l.reverse (nI j) = l.getD j (-1) := by
  unfold p_l
  rw [List.length_reverse]
  rcases Nat.lt_or_ge j l.length with h | h
  · have e : nI l.length - 1 - nI j = nI (l.length - 1 - j) := by
      rw [show (1 : Int32) = nI 1 from rfl, nI_subn (by omega), nI_subn (by omega)]
    rw [e, nAt_nat (by omega), List.getD_eq_getElem?_getD, List.getElem?_reverse (by omega), List.getD_eq_getElem?_getD, show l.length - 1 - (l.length - 1 - j) = j by omega]
  · have hneg : nI l.length - 1 - nI j < 0 := by
      have : (l.length = 0 ∧ (j = 0 ∨ j = 1 ∨ j = 2)) ∨ (l.length = 1 ∧ (j = 1 ∨ j = 2)) ∨ (l.length = 2 ∧ j = 2) := by omega
      rcases this with ⟨h1, rfl | rfl | rfl⟩ | ⟨h1, rfl | rfl⟩ | ⟨h1, rfl⟩ <;> rw [h1] <;> decide
    rw [nAt_neg hneg, List.getD_eq_getElem?_getD, List.getElem?_eq_none h]
    rfl
theorem p_c_rev {l : List Int32} {m : Nat} (hm : m ≤ 2) (hl : l.length < 2 ^ 30) : p_c l.reverse (nI m) = (l.drop m).reverse := by
  unfold p_c nCut
  rw [List.length_reverse]
  rcases Nat.lt_or_ge l.length m with h | h
  · have hneg : nI l.length - nI m < 0 := by
      have : (l.length = 0 ∧ (m = 1 ∨ m = 2)) ∨ (l.length = 1 ∧ m = 2) := by omega
      rcases this with ⟨h1, rfl | rfl⟩ | ⟨h1, rfl⟩ <;> rw [h1] <;> decide
    rw [x_clneg hneg, List.drop_eq_nil_of_le (by omega)]
    rfl
  · rw [nI_subn h, nI_clamp (by omega), List.reverse_drop]
theorem q0_fst (r : List II) (j : Nat) : (r.map Prod.fst).getD j (-1) = (q0 r j).1 := by
  simp only [q0, List.getD_eq_getElem?_getD, List.getElem?_map]
  cases r[j]? <;> rfl
theorem q0_snd (r : List II) (j : Nat) : (r.map Prod.snd).getD j (-1) = (q0 r j).2 := by
  simp only [q0, List.getD_eq_getElem?_getD, List.getElem?_map]
  cases r[j]? <;> rfl
theorem p_step_up {r : List II} {n k : Int32} (hl : r.length < 2 ^ 30) : p_step (up r.reverse).1 (up r.reverse).2 n k = up (q_step r (n, k)).reverse := by
  have en : (up r.reverse).1 = (r.map Prod.fst).reverse := by simp [up]
  have ea : (up r.reverse).2 = (r.map Prod.snd).reverse := by simp [up]
  rw [en, ea]
  have hl1 : (r.map Prod.fst).length < 2 ^ 30 := by rw [List.length_map]; exact hl
  have hl2 : (r.map Prod.snd).length < 2 ^ 30 := by rw [List.length_map]; exact hl
  have L0 : p_l (r.map Prod.fst).reverse 0 = (q0 r 0).1 := by rw [← q0_fst]; exact p_l_rev (j := 0) (by omega) hl1
  have L1 : p_l (r.map Prod.fst).reverse 1 = (q0 r 1).1 := by rw [← q0_fst]; exact p_l_rev (j := 1) (by omega) hl1
  have L2 : p_l (r.map Prod.fst).reverse 2 = (q0 r 2).1 := by rw [← q0_fst]; exact p_l_rev (j := 2) (by omega) hl1
  have A0 : p_l (r.map Prod.snd).reverse 0 = (q0 r 0).2 := by rw [← q0_snd]; exact p_l_rev (j := 0) (by omega) hl2
  have A1 : p_l (r.map Prod.snd).reverse 1 = (q0 r 1).2 := by rw [← q0_snd]; exact p_l_rev (j := 1) (by omega) hl2
  have C1 : p_c (r.map Prod.fst).reverse 1 = ((r.map Prod.fst).drop 1).reverse := p_c_rev (m := 1) (by omega) hl1
  have C2 : p_c (r.map Prod.fst).reverse 2 = ((r.map Prod.fst).drop 2).reverse := p_c_rev (m := 2) (by omega) hl1
  have D1 : p_c (r.map Prod.snd).reverse 1 = ((r.map Prod.snd).drop 1).reverse := p_c_rev (m := 1) (by omega) hl2
  have D2 : p_c (r.map Prod.snd).reverse 2 = ((r.map Prod.snd).drop 2).reverse := p_c_rev (m := 2) (by omega) hl2
  have E1 : (r.map Prod.fst).reverse.dropLast = ((r.map Prod.fst).drop 1).reverse := by cases r <;> simp
  have E2 : (r.map Prod.snd).reverse.dropLast = ((r.map Prod.snd).drop 1).reverse := by cases r <;> simp
  unfold p_step p_folds p_one p_calc p_comp p_drop p_cond p_short q_step q_act
  simp only [L0, L1, L2, A0, A1, C1, C2, D1, D2, E1, E2]
  generalize q0 r 0 = x
  generalize q0 r 1 = y
  generalize q0 r 2 = w
  by_cases h56 : n = 5 ∨ n = 6
  · simp only [if_pos h56]
    by_cases h0 : x.1 = 0
    · simp only [if_pos h0]; simp [up, q_put]
    simp only [if_neg h0]
    by_cases h1 : x.1 = n
    · simp only [if_pos h1]; simp [up, q_put]
    simp only [if_neg h1]
    by_cases h2 : x.1 = 8 ∧ n = 6
    · simp only [if_pos h2]; simp [up, q_put]
    · simp only [if_neg h2]; simp [up, q_put]
  simp only [if_neg h56]
  by_cases h7 : n = 7
  · simp only [if_pos h7]
    by_cases h0 : x.1 = 0
    · simp only [if_neg (fun w : ¬ x.1 = 0 => w h0)]
      by_cases h1 : a_alone k x.2 = true
      · simp only [if_pos h1]; simp [up, q_put]
      simp only [if_neg h1]
      by_cases h2 : ¬ y.1 = 0 ∨ (x.2 = 0 ∧ a_divides k = true)
      · simp only [if_pos h2]; simp [up, q_put]
      · simp only [if_neg h2]; simp [up, q_put]
    · simp only [if_pos h0]; simp [up, q_put]
  simp only [if_neg h7]
  by_cases h8 : n = 8
  · simp only [if_pos h8]
    by_cases h0 : x.1 = 0
    · simp only [if_neg (fun w : ¬ x.1 = 0 => w h0)]
      by_cases h1 : y.1 = 0
      · simp only [if_pos h1]; simp [up, q_put]
      simp only [if_neg h1]
      by_cases h2 : y.1 = 8 ∧ x.2 = 0 ∧ k < 2
      · simp only [if_pos h2]; simp [up, q_put]
      · simp only [if_neg h2]; simp [up, q_put]
    · simp only [if_pos h0]; simp [up, q_put]
  simp only [if_neg h8]
  by_cases h14 : n = 14
  · simp only [if_pos h14]
    by_cases h0 : x.1 = 5 ∨ x.1 = 6
    · simp only [if_pos h0]; simp [up, q_put]
    simp only [if_neg h0]
    by_cases h1 : x.1 = 0 ∨ x.1 = 1
    · simp only [if_pos h1]; simp [up, q_put]
    · simp only [if_neg h1]; simp [up, q_put]
  simp only [if_neg h14]
  by_cases h12 : n = 11 ∨ n = 12
  · simp only [if_pos h12]
    by_cases h0 : x.1 = 0
    · simp only [if_pos h0]
      by_cases h1 : (x.2 = 0 ↔ n = 11)
      · simp only [if_pos h1]; simp [up, q_put]
      · simp only [if_neg h1]; simp [up, q_put]
    simp only [if_neg h0]
    by_cases h1 : x.1 = 5
    · simp only [if_pos h1]; simp [up, q_put]
    simp only [if_neg h1]
    by_cases h2 : x.1 = 8 ∧ x.2 < 2 ∧ y.1 = 0 ∧ y.2 = 0
    · simp only [if_pos h2]; simp [up, q_put]
    · simp only [if_neg h2]; simp [up, q_put]
  simp only [if_neg h12]
  by_cases h13 : n = 13
  · simp only [if_pos h13]
    by_cases h0 : x.1 = 10
    · simp only [if_pos h0]
      by_cases h1 : x.2 = k
      · simp only [if_pos h1]; simp [up, q_put]
      simp only [if_neg h1]
      by_cases h2 : t_cond y.1 = true ∧ y.2 = k ∧ ¬ w.1 = 18
      · simp only [if_pos h2]; simp [up, q_put]
      · simp only [if_neg h2]; simp [up, q_put]
    simp only [if_neg h0]
    by_cases h1 : t_cond x.1 = true ∧ x.2 = k ∧ ¬ y.1 = 18
    · simp only [if_pos h1]; simp [up, q_put]
    · simp only [if_neg h1]; simp [up, q_put]
  simp only [if_neg h13]
  simp [up, q_put]
theorem q_act_len {x y w i : II} : (q_act x y w i).1.length ≤ 2 := by
  unfold q_act
  repeat' split
  all_goals simp
theorem q_step_len2 (r : List II) (i : II) : (q_step r i).length ≤ r.length + 2 := by
  unfold q_step q_put
  rw [List.length_append, List.length_drop]
  have := q_act_len (x := q0 r 0) (y := q0 r 1) (w := q0 r 2) (i := i)
  omega
theorem up_at {c : List II} {i : Nat} (hi : i < 2 ^ 31) : nAt (up c).1 (nI i) = (q0 c i).1 ∧ nAt (up c).2 (nI i) = (q0 c i).2 := by
  rw [nAt_nat hi, nAt_nat hi]
  exact ⟨q0_fst c i, q0_snd c i⟩
theorem drop_q0 {c : List II} {i : Nat} (h : i < c.length) : c.drop i = q0 c i :: c.drop (i + 1) := by
  rw [List.drop_eq_getElem_cons h]
  congr 1
  simp [q0, h]
def usB (us : List Int32) (k : Int32) : Bool := decide (¬ nAt us k = 0)
theorem p_rew_up {pl us : List Int32} {c : List II} (hc : c.length < 2 ^ 28) : ∀ (d i : Nat) (dd : Bool) (r : List II), i + d = c.length → r.length + 2 * d < 2 ^ 30 →
    p_rew pl us (up c).1 (up c).2 d i dd (up r.reverse).1 (up r.reverse).2 = up (q_rew (usB us) (p_far pl (up c).1 (up c).2 100) (c.drop i) (dd, r)).2.reverse := by
  intro d
  induction d with
  | zero =>
    intro i dd r hi _
    rw [List.drop_eq_nil_of_le (by omega)]
    rfl
  | succ d ih =>
    intro i dd r hi hr
    obtain ⟨e1, e2⟩ := up_at (c := c) (i := i) (by omega)
    rw [p_rew, e1, e2, drop_q0 (by omega : i < c.length)]
    show _ = up (q_rew _ _ (c.drop (i + 1)) (q_go _ _ (dd, r) (q0 c i))).2.reverse
    generalize q0 c i = x
    unfold q_go
    by_cases h1 : x.1 = 13 ∧ nAt us x.2 = 0
    · rw [if_pos h1, if_pos ⟨h1.1, by simp [usB, h1.2]⟩]
      exact ih (i + 1) dd r (by omega) (by omega)
    have h1' : ¬ (x.1 = 13 ∧ usB us x.2 = false) := fun w => h1 ⟨w.1, by simpa [usB] using w.2⟩
    rw [if_neg h1, if_neg h1']
    by_cases h2 : dd = true ∧ ¬ x.1 = 13
    · rw [if_pos h2, if_pos h2]
      exact ih (i + 1) dd r (by omega) (by omega)
    rw [if_neg h2, if_neg h2]
    have e3 : p_goal pl (up c).1 (up c).2 x.1 x.2 = (q_im (p_far pl (up c).1 (up c).2 100) x).2 := rfl
    have e4 := p_step_up (r := r) (n := x.1) (k := (q_im (p_far pl (up c).1 (up c).2 100) x).2) (by omega)
    have e5 : (x.1, (q_im (p_far pl (up c).1 (up c).2 100) x).2) = q_im (p_far pl (up c).1 (up c).2 100) x := rfl
    rw [e5] at e4
    have hlen := q_step_len2 r (q_im (p_far pl (up c).1 (up c).2 100) x)
    rw [e3, e4]
    have e6 : p_l (up (q_step r (q_im (p_far pl (up c).1 (up c).2 100) x)).reverse).1 0 = (q0 (q_step r (q_im (p_far pl (up c).1 (up c).2 100) x)) 0).1 := by
      have : (up (q_step r (q_im (p_far pl (up c).1 (up c).2 100) x)).reverse).1 = ((q_step r (q_im (p_far pl (up c).1 (up c).2 100) x)).map Prod.fst).reverse := by simp [up]
      rw [this, ← q0_fst]
      exact p_l_rev (j := 0) (by omega) (by rw [List.length_map]; omega)
    rw [e6]
    exact ih (i + 1) _ _ (by omega) (by omega)
