/-! A PASS keeps the lengths, the fits and the labels -/
theorem rule_len {u : Bool} {o n : List II} (R : Rule u o n) : n.length ≤ o.length := by
  rcases R with ⟨i, rfl, rfl, rfl⟩ | ⟨b, k, rfl, rfl, rfl⟩ | ⟨b, k, rfl, rfl, rfl⟩ | ⟨b, k, rfl, rfl, rfl⟩ | ⟨b, k, rfl, rfl, rfl⟩ | ⟨b, k, rfl, rfl, rfl, h⟩ | ⟨b, k, rfl, rfl, rfl, h⟩ | ⟨b, k, b2, rfl, rfl, rfl, h⟩ | ⟨b, k, b2, rfl, rfl, rfl⟩ | ⟨k, b2, rfl, rfl, rfl, h, h1, h2⟩ | ⟨b, k, rfl, rfl, rfl⟩ | ⟨b, k, rfl, rfl, rfl⟩ | ⟨b, k, rfl, rfl, rfl⟩ | ⟨b, k, rfl, rfl, rfl⟩ | ⟨n, b, k, rfl, rfl, rfl, hn, h⟩ | ⟨n, b, k, rfl, rfl, rfl, hn, h⟩ | ⟨n, b, k, rfl, rfl, rfl, hn⟩ | ⟨n, b, k, rfl, rfl, rfl, hn, h⟩ | ⟨k, rfl, rfl, rfl⟩ | ⟨n, b, k, rfl, rfl, rfl, hn⟩ | ⟨n, k, rfl, rfl, rfl, hn⟩
  · simp
  · simp
  · simp
  · simp
  · simp
  · simp
  · simp
  · simp
  · simp
  · simp
  · simp
  · simp
  · simp
  · simp
  · simp
  · simp
  · simp
  · simp
  · simp
  · simp
  · simp
abbrev fit2 (n k : Int32) : Prop := (¬ n < 0 ∧ n < 21) ∧ (n = 8 ∨ n = 9 → k6 k) ∧ (n = 7 → ¬ k < 0 ∧ k < 11) ∧ (n = 1 ∨ n = 2 → ¬ k < 0 ∧ k < 16) ∧ (t_goes n = true ∨ n = 13 → ¬ k < 0 ∧ k < 100)
abbrev fitI (i : II) : Prop := fit2 i.1 i.2
theorem fit2_0 (b : Int32) : fit2 0 b := ⟨by decide, fun w => absurd w (by decide), fun w => absurd w (by decide), fun w => absurd w (by decide), fun w => absurd w (by decide)⟩
theorem fit2_14 (b : Int32) : fit2 14 b := ⟨by decide, fun w => absurd w (by decide), fun w => absurd w (by decide), fun w => absurd w (by decide), fun w => absurd w (by decide)⟩
theorem fit2_8 {b : Int32} (h : k6 b) : fit2 8 b := ⟨by decide, fun _ => h, fun w => absurd w (by decide), fun w => absurd w (by decide), fun w => absurd w (by decide)⟩
theorem fit2_j {m b : Int32} (hm : m = 10 ∨ m = 11 ∨ m = 12) (h5 : ¬ b < 0 ∧ b < 100) : fit2 m b := by
  rcases hm with rfl | rfl | rfl
  · exact ⟨by decide, fun w => absurd w (by decide), fun w => absurd w (by decide), fun w => absurd w (by decide), fun _ => h5⟩
  · exact ⟨by decide, fun w => absurd w (by decide), fun w => absurd w (by decide), fun w => absurd w (by decide), fun _ => h5⟩
  · exact ⟨by decide, fun w => absurd w (by decide), fun w => absurd w (by decide), fun w => absurd w (by decide), fun _ => h5⟩
theorem fitI_0 (b : Int32) : fitI (0, b) := fit2_0 b
theorem fitI_14 (b : Int32) : fitI (14, b) := fit2_14 b
theorem fitI_8 {b : Int32} (h : k6 b) : fitI (8, b) := fit2_8 h
theorem fitI_j {n m b : Int32} (hn : n = 10 ∨ n = 11 ∨ n = 12) (hm : m = 10 ∨ m = 11 ∨ m = 12) (h : fitI (n, b)) : fitI (m, b) :=
  fit2_j hm (h.2.2.2.2 (.inl (by rcases hn with rfl | rfl | rfl <;> rfl)))
def fitA (c : List II) : Prop := ∀ i ∈ c, fitI i
theorem fitA_8 {c : List II} (h : fitA c) : fit8 c := fun j hj h8 => (h j hj).2.1 (.inl h8)
theorem p_other_cases (n : Int32) : p_other n = 10 ∨ p_other n = 11 ∨ p_other n = 12 := by
  unfold p_other; split
  · exact .inr (.inr rfl)
  · exact .inr (.inl rfl)
theorem rule_fit {u : Bool} {o n : List II} (R : Rule u o n) (h : fitA o) : fitA n := by
  rcases R with ⟨i, rfl, rfl, rfl⟩ | ⟨b, k, rfl, rfl, rfl⟩ | ⟨b, k, rfl, rfl, rfl⟩ | ⟨b, k, rfl, rfl, rfl⟩ | ⟨b, k, rfl, rfl, rfl⟩ | ⟨b, k, rfl, rfl, rfl, hb⟩ | ⟨b, k, rfl, rfl, rfl, hb⟩ | ⟨b, k, b2, rfl, rfl, rfl, hb⟩ | ⟨b, k, b2, rfl, rfl, rfl⟩ | ⟨k, b2, rfl, rfl, rfl, h0, h1, h2⟩ | ⟨b, k, rfl, rfl, rfl⟩ | ⟨b, k, rfl, rfl, rfl⟩ | ⟨b, k, rfl, rfl, rfl⟩ | ⟨b, k, rfl, rfl, rfl⟩ | ⟨n, b, k, rfl, rfl, rfl, hn, hb⟩ | ⟨n, b, k, rfl, rfl, rfl, hn, hb⟩ | ⟨n, b, k, rfl, rfl, rfl, hn⟩ | ⟨n, b, k, rfl, rfl, rfl, hn, hb⟩ | ⟨k, rfl, rfl, rfl⟩ | ⟨n, b, k, rfl, rfl, rfl, hn⟩ | ⟨n, k, rfl, rfl, rfl, hn⟩
  · exact h
  · intro j hj; rw [List.mem_singleton.mp hj]; exact fitI_0 _
  · intro j hj; rw [List.mem_singleton.mp hj]; exact fitI_0 _
  · intro j hj; cases hj
  · intro j hj; cases hj
  · intro j hj; rw [List.mem_singleton.mp hj]; exact fitI_8 (k6_opp hb)
  · intro j hj; cases hj
  · intro j hj; rw [List.mem_singleton.mp hj]; exact fitI_0 _
  · intro j hj; rw [List.mem_singleton.mp hj]; exact fitI_0 _
  · intro j hj; rw [List.mem_singleton.mp hj]
    refine fitI_8 ?_
    split
    · exact k6_opp h2
    · exact h2
  · intro j hj; exact h j (by simp_all)
  · intro j hj; exact h j (by simp_all)
  · intro j hj; cases hj
  · intro j hj; cases hj
  · intro j hj; rw [List.mem_singleton.mp hj]; exact fitI_j (.inr hn) (.inl rfl) (h (n, k) (by simp))
  · intro j hj; cases hj
  · intro j hj; exact h j (by simp_all)
  · intro j hj; rw [List.mem_singleton.mp hj]
    refine fitI_j (.inr hn) ?_ (h (n, k) (by simp))
    split
    · exact p_other_cases n
    · exact .inr hn
  · intro j hj; exact h j (by simp_all)
  · intro j hj
    rcases List.mem_cons.mp hj with rfl | hj
    · exact h _ (by simp)
    · rw [List.mem_singleton.mp hj]; exact fitI_j (.inl rfl) (p_other_cases n) (h (10, b) (by simp))
  · intro j hj
    rcases List.mem_cons.mp hj with rfl | hj
    · exact h _ (by simp)
    · rw [List.mem_singleton.mp hj]; exact fitI_14 0
/-- the goals of a code's jumps -/
def goals (c : List II) (k : Int32) : Prop := ∃ n, t_goes n = true ∧ (n, k) ∈ c
theorem rule_goals {u : Bool} {o n : List II} (R : Rule u o n) (k' : Int32) (hgo : goals n k') : goals o k' := by
  obtain ⟨m, hm, hme⟩ := hgo
  have hg : ∀ x : Int32, x = 11 ∨ x = 12 → t_goes x = true := by intro x hx; rcases hx with rfl | rfl <;> rfl
  rcases R with ⟨i, rfl, rfl, rfl⟩ | ⟨b, k, rfl, rfl, rfl⟩ | ⟨b, k, rfl, rfl, rfl⟩ | ⟨b, k, rfl, rfl, rfl⟩ | ⟨b, k, rfl, rfl, rfl⟩ | ⟨b, k, rfl, rfl, rfl, h⟩ | ⟨b, k, rfl, rfl, rfl, h⟩ | ⟨b, k, b2, rfl, rfl, rfl, h⟩ | ⟨b, k, b2, rfl, rfl, rfl⟩ | ⟨k, b2, rfl, rfl, rfl, h, h1, h2⟩ | ⟨b, k, rfl, rfl, rfl⟩ | ⟨b, k, rfl, rfl, rfl⟩ | ⟨b, k, rfl, rfl, rfl⟩ | ⟨b, k, rfl, rfl, rfl⟩ | ⟨n, b, k, rfl, rfl, rfl, hn, hb⟩ | ⟨n, b, k, rfl, rfl, rfl, hn, h⟩ | ⟨n, b, k, rfl, rfl, rfl, hn⟩ | ⟨n, b, k, rfl, rfl, rfl, hn, hb⟩ | ⟨k, rfl, rfl, rfl⟩ | ⟨n, b, k, rfl, rfl, rfl, hn⟩ | ⟨n, k, rfl, rfl, rfl, hn⟩
  · exact ⟨m, hm, hme⟩
  · first | (cases hme; done) | (cases List.mem_singleton.mp hme; exact absurd hm (by decide))
  · first | (cases hme; done) | (cases List.mem_singleton.mp hme; exact absurd hm (by decide))
  · first | (cases hme; done) | (cases List.mem_singleton.mp hme; exact absurd hm (by decide))
  · first | (cases hme; done) | (cases List.mem_singleton.mp hme; exact absurd hm (by decide))
  · first | (cases hme; done) | (cases List.mem_singleton.mp hme; exact absurd hm (by decide))
  · first | (cases hme; done) | (cases List.mem_singleton.mp hme; exact absurd hm (by decide))
  · first | (cases hme; done) | (cases List.mem_singleton.mp hme; exact absurd hm (by decide))
  · first | (cases hme; done) | (cases List.mem_singleton.mp hme; exact absurd hm (by decide))
  · first | (cases hme; done) | (cases List.mem_singleton.mp hme; exact absurd hm (by decide))
  · first | (cases hme; done) | (cases List.mem_singleton.mp hme; exact absurd hm (by decide))
  · first | (cases hme; done) | (cases List.mem_singleton.mp hme; exact absurd hm (by decide))
  · first | (cases hme; done) | (cases List.mem_singleton.mp hme; exact absurd hm (by decide))
  · first | (cases hme; done) | (cases List.mem_singleton.mp hme; exact absurd hm (by decide))
  · cases List.mem_singleton.mp hme; exact ⟨n, hg n hn, by simp⟩
  · first | (cases hme; done) | (cases List.mem_singleton.mp hme; exact absurd hm (by decide))
  · exact ⟨m, hm, by simp_all⟩
  · cases List.mem_singleton.mp hme; exact ⟨n, hg n hn, by simp⟩
  · cases List.mem_singleton.mp hme; exact absurd hm (by decide)
  · rcases List.mem_cons.mp hme with hme | hme
    · cases hme; exact absurd hm (by decide)
    · cases List.mem_singleton.mp hme; exact ⟨10, rfl, by simp⟩
  · rcases List.mem_cons.mp hme with hme | hme
    · cases hme; exact absurd hm (by decide)
    · cases List.mem_singleton.mp hme; exact absurd hm (by decide)
theorem q_step_all {r : List II} {i : II} (h : fitA (i :: r)) : fitA (q_step r i) ∧ (q_step r i).length ≤ r.length + 1 ∧ ∀ k, goals (q_step r i) k → goals (i :: r) k := by
  obtain ⟨u, o, n, p, h1, h2, R, -⟩ := q_step_rule (fitA_8 h)
  rw [h1] at h
  have h3 := rule_fit R (fun j hj => h j (List.mem_append_left _ hj))
  have h4 := rule_len R
  have h5 : r.length + 1 = o.length + p.length := by rw [← List.length_append, ← h1]; rfl
  refine ⟨?_, ?_, ?_⟩
  · rw [h2]
    intro j hj
    rcases List.mem_append.mp hj with w | w
    · exact h3 j w
    · exact h j (List.mem_append_right _ w)
  · rw [h2, List.length_append]; omega
  · rw [h2, h1]
    rintro k ⟨m, hm, hk⟩
    rcases List.mem_append.mp hk with w | w
    · obtain ⟨m', hm', w'⟩ := rule_goals R k ⟨m, hm, w⟩
      exact ⟨m', hm', List.mem_append_left _ w'⟩
    · exact ⟨m, hm, List.mem_append_right _ w⟩
section TY
variable {us : Int32 → Bool} {fr : Int32 → Int32} {C : CP}
theorem fitI_im {i : II} (hi : fitI i) (hfr : t_goes i.1 = true → ¬ fr i.2 < 0 ∧ fr i.2 < 100) : fitI (q_im fr i) := by
  cases hg : t_goes i.1 with
  | false =>
    have e : q_im fr i = i := by simp only [q_im, hg]; rfl
    rw [e]; exact hi
  | true =>
    have hn : i.1 = 10 ∨ i.1 = 11 ∨ i.1 = 12 := by simpa [t_goes] using hg
    have e : q_im fr i = (i.1, fr i.2) := by simp only [q_im, hg]; rfl
    rw [e]
    exact fit2_j hn (hfr hg)
theorem q_rew_all (c : List II) : ∀ (s : Bool × List II), fitA c → (∀ i ∈ c, t_goes i.1 = true → ¬ fr i.2 < 0 ∧ fr i.2 < 100) → fitA s.2 →
    fitA (q_rew us fr c s).2 ∧ (q_rew us fr c s).2.length ≤ s.2.length + c.length ∧ ∀ k, goals (q_rew us fr c s).2 k → goals s.2 k ∨ ∃ k', goals c k' ∧ k = fr k' := by
  induction c with
  | nil => intro s _ _ hs; exact ⟨hs, Nat.le_refl _, fun k hk => .inl hk⟩
  | cons i c ih =>
    intro s hc hfr hs
    have hi := hc i (List.mem_cons_self ..)
    have hc' : fitA c := fun j hj => hc j (List.mem_cons_of_mem _ hj)
    have hfr' := fun j hj => hfr j (List.mem_cons_of_mem _ hj)
    have up : ∀ k, (∃ k', goals c k' ∧ k = fr k') → ∃ k', goals (i :: c) k' ∧ k = fr k' := by
      rintro k ⟨k', ⟨m, hm, hk⟩, rfl⟩
      exact ⟨k', ⟨m, hm, List.mem_cons_of_mem _ hk⟩, rfl⟩
    show fitA (q_rew us fr c (q_go us fr s i)).2 ∧ (q_rew us fr c (q_go us fr s i)).2.length ≤ _ ∧ ∀ k, goals (q_rew us fr c (q_go us fr s i)).2 k → _
    by_cases h1 : i.1 = 13 ∧ us i.2 = false
    · have e : q_go us fr s i = s := by rw [q_go, if_pos h1]
      rw [e]
      obtain ⟨a1, a2, a3⟩ := ih s hc' hfr' hs
      exact ⟨a1, by rw [List.length_cons]; omega, fun k hk => (a3 k hk).imp id (up k)⟩
    by_cases h2 : s.1 = true ∧ ¬ i.1 = 13
    · have e : q_go us fr s i = s := by rw [q_go, if_neg h1, if_pos h2]
      rw [e]
      obtain ⟨a1, a2, a3⟩ := ih s hc' hfr' hs
      exact ⟨a1, by rw [List.length_cons]; omega, fun k hk => (a3 k hk).imp id (up k)⟩
    have e : (q_go us fr s i).2 = q_step s.2 (q_im fr i) := by rw [q_go, if_neg h1, if_neg h2]
    have hf : fitA (q_im fr i :: s.2) := by
      intro j hj
      rcases List.mem_cons.mp hj with rfl | hj
      · exact fitI_im hi (hfr i (List.mem_cons_self ..))
      · exact hs j hj
    obtain ⟨b1, b2, b3⟩ := q_step_all hf
    obtain ⟨a1, a2, a3⟩ := ih (q_go us fr s i) hc' hfr' (by rw [e]; exact b1)
    rw [e] at a2 a3
    refine ⟨a1, by rw [List.length_cons]; omega, fun k hk => ?_⟩
    rcases a3 k hk with w | w
    · obtain ⟨m, hm, w⟩ := b3 k w
      rcases List.mem_cons.mp w with w | w
      · right
        have h9 : i.1 = m := (congrArg Prod.fst w).symm
        have hg : t_goes i.1 = true := by rw [h9]; exact hm
        refine ⟨i.2, ⟨i.1, hg, List.mem_cons_self ..⟩, ?_⟩
        have := congrArg Prod.snd w
        simpa only [q_im, hg, if_true] using this
      · exact .inl ⟨m, hm, w⟩
    · exact .inr (up k w)
theorem ck_up {s s' t : CK} {i : II} (hs : cle s s') (h : ck C s i = some t) (hd : s' = none → i.1 = 13) (hfr : t_goes i.1 = true → C.hh (fr i.2) = C.hh i.2 ∧ C.rho (fr i.2) ≤ C.rho i.2) : ∃ t', ck C s' (q_im fr i) = some t' ∧ cle t t' := by
  obtain ⟨a, k⟩ := i
  rcases hs with rfl | ⟨d, B, B', q, rfl, rfl, hB⟩
  · have h13 : a = 13 := hd rfl
    subst h13
    refine ⟨_, rfl, ?_⟩
    rcases s with _ | ⟨d, B, q⟩
    · rw [ck_13n] at h; cases h; exact cle.refl _
    · cases q with
      | true => rw [ck_p (by decide)] at h; cases h
      | false =>
        rw [ck_13] at h
        split at h
        · rename_i w; cases h; rw [← w.1]; exact cle.refl _
        · cases h
  · cases hg : t_goes a with
    | false =>
      have e : q_im fr (a, k) = (a, k) := by simp only [q_im, hg]; rfl
      rw [e]
      have hn : ¬ a = 10 ∧ ¬ a = 11 ∧ ¬ a = 12 := by simpa [t_goes] using hg
      cases q with
      | true => rw [ck_p hn.2.2] at h; cases h
      | false =>
        rcases ck_inv h with ⟨rfl, c, rfl⟩ | ⟨rfl, c, rfl⟩ | ⟨rfl, c, rfl⟩ | ⟨rfl, c, rfl⟩ | ⟨rfl, c, rfl⟩ | ⟨rfl, c, rfl⟩ | ⟨rfl, c, rfl⟩ | ⟨rfl, c, rfl⟩ | ⟨rfl, c, rfl⟩ | ⟨rfl, c, rfl⟩ | ⟨rfl, c, rfl⟩ | ⟨rfl, c, rfl⟩ | ⟨rfl, c, rfl⟩ | ⟨rfl, c, rfl⟩ | ⟨rfl, c, rfl⟩ | ⟨rfl, rfl⟩ | ⟨rfl, c, rfl⟩ | ⟨rfl, rfl⟩ | ⟨rfl, c, rfl⟩ | ⟨rfl, c, rfl⟩ | ⟨rfl, c, rfl⟩
        · rw [ck_0, if_pos c]; exact ⟨_, rfl, .inr ⟨_, _, _, _, rfl, rfl, hB⟩⟩
        · rw [ck_1, if_pos c]; exact ⟨_, rfl, .inr ⟨_, _, _, _, rfl, rfl, hB⟩⟩
        · rw [ck_2, if_pos c]; exact ⟨_, rfl, .inr ⟨_, _, _, _, rfl, rfl, hB⟩⟩
        · rw [ck_3, if_pos c]; exact ⟨_, rfl, .inr ⟨_, _, _, _, rfl, rfl, hB⟩⟩
        · rw [ck_4, if_pos c]; exact ⟨_, rfl, .inr ⟨_, _, _, _, rfl, rfl, hB⟩⟩
        · rw [ck_5, if_pos c]; exact ⟨_, rfl, .inr ⟨_, _, _, _, rfl, rfl, hB⟩⟩
        · rw [ck_6, if_pos c]; exact ⟨_, rfl, .inr ⟨_, _, _, _, rfl, rfl, hB⟩⟩
        · rw [ck_7, if_pos c]; exact ⟨_, rfl, .inr ⟨_, _, _, _, rfl, rfl, hB⟩⟩
        · rw [ck_8, if_pos c]; exact ⟨_, rfl, .inr ⟨_, _, _, _, rfl, rfl, hB⟩⟩
        · rw [ck_9, if_pos c]; exact ⟨_, rfl, .inr ⟨_, _, _, _, rfl, rfl, hB⟩⟩
        · exact absurd rfl hn.1
        · exact absurd rfl hn.2.1
        · exact absurd rfl hn.2.2
        · rw [ck_13, if_pos ⟨c.1, Nat.lt_of_lt_of_le c.2 hB⟩]; exact ⟨_, rfl, .inr ⟨_, _, _, _, rfl, rfl, Nat.le_refl _⟩⟩
        · rw [ck_14, if_pos c]; exact ⟨_, rfl, .inr ⟨_, _, _, _, rfl, rfl, hB⟩⟩
        · exact ⟨_, rfl, .inr ⟨_, _, _, _, rfl, rfl, Nat.le_refl _⟩⟩
        · rw [ck_16, if_pos c]; exact ⟨_, rfl, .inl rfl⟩
        · exact ⟨_, rfl, .inl rfl⟩
        · rw [ck_18, if_pos c]; exact ⟨_, rfl, .inr ⟨_, _, _, _, rfl, rfl, hB⟩⟩
        · rw [ck_19, if_pos c]; exact ⟨_, rfl, .inr ⟨_, _, _, _, rfl, rfl, hB⟩⟩
        · rw [ck_20, if_pos c]; exact ⟨_, rfl, .inr ⟨_, _, _, _, rfl, rfl, hB⟩⟩
    | true =>
      have hf := hfr hg
      have e : q_im fr (a, k) = (a, fr k) := by simp only [q_im, hg]; rfl
      rw [e]
      simp only at hf
      have hn : a = 10 ∨ a = 11 ∨ a = 12 := by simpa [t_goes] using hg
      cases q with
      | true =>
        simp only [ck] at h ⊢
        by_cases w : a = 12 ∧ C.hh k + 1 = d ∧ C.rho k < B
        · rw [if_pos w] at h
          cases h
          rw [if_pos ⟨w.1, by omega, by omega⟩]
          exact ⟨_, rfl, .inr ⟨_, _, _, _, rfl, rfl, hB⟩⟩
        · rw [if_neg w] at h; cases h
      | false =>
        rcases hn with rfl | rfl | rfl
        · rw [ck_10] at h ⊢
          split at h
          · cases h; rw [if_pos ⟨by omega, by omega⟩]; exact ⟨_, rfl, .inl rfl⟩
          · cases h
        · rw [ck_11] at h ⊢
          split at h
          · cases h; rw [if_pos ⟨by omega, by omega⟩]; exact ⟨_, rfl, .inr ⟨_, _, _, _, rfl, rfl, hB⟩⟩
          · cases h
        · rw [ck_12] at h ⊢
          split at h
          · cases h; rw [if_pos ⟨by omega, by omega⟩]; exact ⟨_, rfl, .inr ⟨_, _, _, _, rfl, rfl, hB⟩⟩
          · cases h
theorem rck_last {r : List II} {s0 u : CK} (h : rck C r s0 = some u) (h0 : ∃ d B, s0 = some (d, B, false)) : (u = none ↔ t_ends (q0 r 0).1 = true) ∧ ((∃ d B, u = some (d, B, true)) → (q0 r 0).1 = 18) := by
  obtain ⟨d, B, rfl⟩ := h0
  cases r with
  | nil =>
    cases h
    exact ⟨⟨fun w => (by cases w), fun w => absurd w (by decide)⟩, by rintro ⟨d, B, w⟩; cases w⟩
  | cons i r =>
    rw [rck] at h
    cases hr : rck C r (some (d, B, false)) with
    | none => rw [hr] at h; cases h
    | some v => rw [hr] at h; exact ck_ends h
theorem q_rew_ck {s0 : CK} (h0 : ∃ d B, s0 = some (d, B, false)) (t : List II) : ∀ (dd : Bool) (r : List II) (s s' e : CK), fitA (t ++ r) → (∀ i ∈ t, t_goes i.1 = true → (¬ fr i.2 < 0 ∧ fr i.2 < 100) ∧ C.hh (fr i.2) = C.hh i.2 ∧ C.rho (fr i.2) ≤ C.rho i.2) →
    rck C r s0 = some s' → cle s s' → (dd = true ↔ s' = none) → fck C t s = some e → ∃ e', rck C (q_rew us fr t (dd, r)).2 s0 = some e' ∧ cle e e' := by
  induction t with
  | nil =>
    intro dd r s s' e _ _ h1 h2 _ h4
    cases h4
    exact ⟨s', h1, h2⟩
  | cons i t ih =>
    intro dd r s s' e hf hfr h1 h2 h3 h4
    have hfr' := fun j hj => hfr j (List.mem_cons_of_mem _ hj)
    have hf' : fitA (t ++ r) := fun j hj => hf j (List.mem_cons_of_mem _ hj)
    rw [fck] at h4
    cases hs1 : ck C s i with
    | none => rw [hs1] at h4; cases h4
    | some s1 =>
      rw [hs1] at h4
      have h4 : fck C t s1 = some e := h4
      show ∃ e', rck C (q_rew us fr t (q_go us fr (dd, r) i)).2 s0 = some e' ∧ cle e e'
      by_cases c1 : i.1 = 13 ∧ us i.2 = false
      · have e1 : q_go us fr (dd, r) i = (dd, r) := by rw [q_go, if_pos c1]
        rw [e1]
        refine ih dd r s1 s' e hf' hfr' h1 ?_ h3 h4
        rcases h2 with rfl | ⟨d, B, B', q, rfl, rfl, hB⟩
        · exact .inl rfl
        · obtain ⟨a, k⟩ := i
          have hc : a = 13 := c1.1
          subst hc
          cases q with
          | true => rw [ck_p (by decide)] at hs1; cases hs1
          | false =>
            rw [ck_13] at hs1
            split at hs1
            · rename_i w; cases hs1; exact .inr ⟨_, _, _, _, rfl, rfl, by omega⟩
            · cases hs1
      by_cases c2 : dd = true ∧ ¬ i.1 = 13
      · have e1 : q_go us fr (dd, r) i = (dd, r) := by rw [q_go, if_neg c1, if_pos c2]
        rw [e1]
        exact ih dd r s1 s' e hf' hfr' h1 (.inl (h3.mp c2.1)) h3 h4
      have e1 : q_go us fr (dd, r) i = (t_ends (q0 (q_step r (q_im fr i)) 0).1, q_step r (q_im fr i)) := by rw [q_go, if_neg c1, if_neg c2]
      rw [e1]
      have hi := hfr i (List.mem_cons_self ..)
      obtain ⟨s1', a1, a2⟩ := ck_up (fr := fr) h2 hs1 (fun w => Decidable.not_not.mp (fun w2 => c2 ⟨h3.mpr w, w2⟩)) (fun w => (hi w).2)
      have hfim : fitA (q_im fr i :: r) := by
        intro j hj
        rcases List.mem_cons.mp hj with rfl | hj
        · exact fitI_im (hf i (List.mem_cons_self ..)) (fun w => (hi w).1)
        · exact hf j (List.mem_cons_of_mem _ (List.mem_append_right _ hj))
      have a3 : rck C (q_im fr i :: r) s0 = some s1' := by rw [rck, h1]; exact a1
      obtain ⟨u, o, n, p, b1, b2, R, b4⟩ := q_step_rule (fitA_8 hfim)
      rw [b1, rck_app] at a3
      cases hp : rck C p s0 with
      | none => rw [hp] at a3; cases a3
      | some v =>
        rw [hp] at a3
        obtain ⟨s2, d1, d2⟩ := rule_ck R (s := v) (fun hu d B w => b4 hu ((rck_last hp h0).2 ⟨d, B, w⟩)) a3
        have d3 : rck C (q_step r (q_im fr i)) s0 = some s2 := by rw [b2, rck_app, hp]; exact d1
        refine ih _ _ s1 s2 e ?_ hfr' d3 (a2.trans d2) (rck_last d3 h0).1.symm h4
        intro j hj
        rcases List.mem_append.mp hj with w | w
        · exact hf' j (List.mem_append_left _ w)
        · exact (q_step_all hfim).1 j w
end TY
