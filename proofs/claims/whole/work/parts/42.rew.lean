/-! A PASS over a code keeps what it does -/
theorem q_act_x {x y w i : II} (h : x.1 = 13 ∨ x.1 = -1) : q_act x y w i = ([i], 0) := by
  have h0 : ¬ x.1 = 0 := by rcases h with h | h <;> rw [h] <;> decide
  have h1 : ¬ x.1 = 1 := by rcases h with h | h <;> rw [h] <;> decide
  have h5 : ¬ x.1 = 5 := by rcases h with h | h <;> rw [h] <;> decide
  have h6 : ¬ x.1 = 6 := by rcases h with h | h <;> rw [h] <;> decide
  have h8 : ¬ x.1 = 8 := by rcases h with h | h <;> rw [h] <;> decide
  have h10 : ¬ x.1 = 10 := by rcases h with h | h <;> rw [h] <;> decide
  have hc : ¬ t_cond x.1 = true := by rcases h with h | h <;> rw [h] <;> decide
  unfold q_act
  by_cases e : i.1 = 5 ∨ i.1 = 6
  · have hi : ¬ x.1 = i.1 := by rcases e with e | e <;> rw [e] <;> assumption
    rw [if_pos e, if_neg h0, if_neg hi, if_neg (fun w => h8 w.1)]
  simp only [if_neg e, h0, h1, h5, h6, h8, h10, hc, not_false_eq_true, if_true, if_false, or_self, false_and, Bool.false_eq_true]
  repeat' split
  all_goals rfl
theorem q_act_y {x y w i : II} (h : y.1 = 13 ∨ y.1 = -1) : (∀ w', q_act x y w i = q_act x y w' i) ∧ (q_act x y w i).2 ≤ 1 := by
  have h0 : ¬ y.1 = 0 := by rcases h with h | h <;> rw [h] <;> decide
  have h8 : ¬ y.1 = 8 := by rcases h with h | h <;> rw [h] <;> decide
  have hc : ¬ t_cond y.1 = true := by rcases h with h | h <;> rw [h] <;> decide
  unfold q_act
  constructor
  · intro w'
    rw [if_neg (fun q : t_cond y.1 = true ∧ y.2 = i.2 ∧ ¬ w.1 = 18 => hc q.1), if_neg (fun q : t_cond y.1 = true ∧ y.2 = i.2 ∧ ¬ w'.1 = 18 => hc q.1)]
  · rw [if_neg (fun q : t_cond y.1 = true ∧ y.2 = i.2 ∧ ¬ w.1 = 18 => hc q.1), if_pos (show ¬ y.1 = 0 ∨ (x.2 = 0 ∧ a_divides i.2 = true) from .inl h0), if_neg h0, if_neg (fun q : y.1 = 8 ∧ x.2 = 0 ∧ i.2 < 2 => h8 q.1), if_neg (fun q : x.1 = 8 ∧ x.2 < 2 ∧ y.1 = 0 ∧ y.2 = 0 => h0 q.2.2.1)]
    repeat' split
    all_goals simp
theorem q_act_le {x y w i : II} : (q_act x y w i).2 ≤ 2 := by
  unfold q_act
  repeat' split
  all_goals simp
theorem q_act_m {r : List II} {i : II} : (q_act (q0 r 0) (q0 r 1) (q0 r 2) i).2 ≤ r.length := by
  rcases r with _ | ⟨a, _ | ⟨b, r⟩⟩
  · rw [q_act_x (.inr rfl)]; exact Nat.le_refl _
  · exact (q_act_y (.inr rfl)).2
  · exact Nat.le_trans q_act_le (by simp)
/-- nothing reaches over a label -/
theorem q_step_split (i : II) (k : Int32) (Y : List II) : ∃ Y', ∀ A, q_step (Y ++ (13, k) :: A) i = Y' ++ (13, k) :: A := by
  rcases Y with _ | ⟨a, _ | ⟨b, _ | ⟨c, Y⟩⟩⟩
  · refine ⟨[i], fun A => ?_⟩
    unfold q_step
    rw [q_act_x (.inl rfl)]
    rfl
  · have h1 := fun A : List II => q_act_y (x := a) (y := (13, k)) (w := q0 A 0) (i := i) (.inl rfl)
    refine ⟨(q_act a (13, k) (-1, -1) i).1 ++ [a].drop (q_act a (13, k) (-1, -1) i).2, fun A => ?_⟩
    have e : q_step ([a] ++ (13, k) :: A) i = q_put (q_act a (13, k) (q0 A 0) i) ([a] ++ (13, k) :: A) := rfl
    have h3 := (h1 A).2
    rw [(h1 A).1 (-1, -1)] at e h3
    rw [e, q_put, List.append_assoc, List.drop_append_of_le_length (by simpa using h3)]
  · refine ⟨(q_act a b (13, k) i).1 ++ [a, b].drop (q_act a b (13, k) i).2, fun A => ?_⟩
    have e : q_step ([a, b] ++ (13, k) :: A) i = q_put (q_act a b (13, k) i) ([a, b] ++ (13, k) :: A) := rfl
    rw [e, q_put, List.append_assoc, List.drop_append_of_le_length (by simpa using q_act_le)]
  · refine ⟨(q_act a b c i).1 ++ (a :: b :: c :: Y).drop (q_act a b c i).2, fun A => ?_⟩
    have e : q_step (a :: b :: c :: Y ++ (13, k) :: A) i = q_put (q_act a b c i) (a :: b :: c :: Y ++ (13, k) :: A) := rfl
    rw [e, q_put, List.append_assoc, List.drop_append_of_le_length (Nat.le_trans q_act_le (by simp))]
theorem q_step_13 (r : List II) (k : Int32) : ∃ B, q_step r (13, k) = (13, k) :: B := by
  unfold q_step q_act
  simp only [show ¬ ((13 : Int32) = 5 ∨ (13 : Int32) = 6) from by decide, show ¬ (13 : Int32) = 7 from by decide, show ¬ (13 : Int32) = 8 from by decide, show ¬ (13 : Int32) = 14 from by decide, show ¬ ((13 : Int32) = 11 ∨ (13 : Int32) = 12) from by decide, if_false, if_true]
  split
  · split
    · exact ⟨_, rfl⟩
    · split
      · exact ⟨_, rfl⟩
      · exact ⟨_, rfl⟩
  · split
    · exact ⟨_, rfl⟩
    · exact ⟨_, rfl⟩
theorem one_ends {Λ : Int32 → KK} {i : II} (h : t_ends i.1 = true) (κ κ' : KK) : one Λ i κ = one Λ i κ' := by
  funext σ
  obtain ⟨a, b⟩ := i
  obtain ⟨st, pd, L, V, f⟩ := σ
  have h : a = 10 ∨ a = 16 ∨ a = 17 := by simpa [t_ends] using h
  cases pd with
  | some q =>
    have h2 : ¬ a = 12 := by rcases h with rfl | rfl | rfl <;> decide
    rw [one_pd _ _ _ _ _ _ _ h2, one_pd _ _ _ _ _ _ _ h2]
  | none => rcases h with rfl | rfl | rfl <;> rfl
theorem rk_dead {Λ : Int32 → KK} {r : List II} (h : t_ends (q0 r 0).1 = true) (κ κ' : KK) (σ : Sg) : rk Λ r κ σ = rk Λ r κ' σ := by
  cases r with
  | nil => exact absurd h (by decide)
  | cons i r =>
    simp only [rk]
    have h' : t_ends i.1 = true := h
    rw [one_ends h' κ κ']
def q_im (fr : Int32 → Int32) (i : II) : II := (i.1, if t_goes i.1 = true then fr i.2 else i.2)
def q_go (us : Int32 → Bool) (fr : Int32 → Int32) (s : Bool × List II) (i : II) : Bool × List II :=
  if i.1 = 13 ∧ us i.2 = false then s else if s.1 = true ∧ ¬ i.1 = 13 then s
  else (t_ends (q0 (q_step s.2 (q_im fr i)) 0).1, q_step s.2 (q_im fr i))
def q_rew (us : Int32 → Bool) (fr : Int32 → Int32) (c : List II) (s : Bool × List II) : Bool × List II := c.foldl (q_go us fr) s
section RW
variable {us : Int32 → Bool} {fr : Int32 → Int32}
theorem q_rew_app (a b : List II) (s : Bool × List II) : q_rew us fr (a ++ b) s = q_rew us fr b (q_rew us fr a s) := List.foldl_append
theorem q_rew_split (k : Int32) (t : List II) : ∀ (dd : Bool) (Y : List II), ∃ (dd' : Bool) (Y' : List II), ∀ A, q_rew us fr t (dd, Y ++ (13, k) :: A) = (dd', Y' ++ (13, k) :: A) := by
  induction t with
  | nil => intro dd Y; exact ⟨dd, Y, fun _ => rfl⟩
  | cons i t ih =>
    intro dd Y
    by_cases h1 : i.1 = 13 ∧ us i.2 = false
    · obtain ⟨dd', Y', h⟩ := ih dd Y
      refine ⟨dd', Y', fun A => ?_⟩
      rw [← h A]
      show q_rew us fr t (q_go us fr _ i) = _
      rw [q_go, if_pos h1]
    by_cases h2 : dd = true ∧ ¬ i.1 = 13
    · obtain ⟨dd', Y', h⟩ := ih dd Y
      refine ⟨dd', Y', fun A => ?_⟩
      rw [← h A]
      show q_rew us fr t (q_go us fr _ i) = _
      rw [q_go, if_neg h1, if_pos h2]
    obtain ⟨Y1, hY1⟩ := q_step_split (q_im fr i) k Y
    have hq : ∀ A : List II, (q0 (Y1 ++ (13, k) :: A) 0) = q0 (Y1 ++ [(13, k)]) 0 := by
      intro A; cases Y1 <;> rfl
    obtain ⟨dd', Y', h⟩ := ih (t_ends (q0 (Y1 ++ [(13, k)]) 0).1) Y1
    refine ⟨dd', Y', fun A => ?_⟩
    rw [← h A]
    show q_rew us fr t (q_go us fr _ i) = _
    rw [q_go, if_neg h1, if_neg h2]
    simp only [hY1, hq]
def fit8 (c : List II) : Prop := ∀ j ∈ c, j.1 = 8 → k6 j.2
theorem fit8_13 (k : Int32) : fit8 [(13, k)] := fun j hj h8 => by rw [List.mem_singleton.mp hj] at h8; exact absurd h8 (pne (by decide))
theorem rule_fit8 {u : Bool} {o n : List II} (R : Rule u o n) (h : fit8 o) : fit8 n := by
  rcases R with ⟨i, rfl, rfl, rfl⟩ | ⟨b, k, rfl, rfl, rfl⟩ | ⟨b, k, rfl, rfl, rfl⟩ | ⟨b, k, rfl, rfl, rfl⟩ | ⟨b, k, rfl, rfl, rfl⟩ | ⟨b, k, rfl, rfl, rfl, hb⟩ | ⟨b, k, rfl, rfl, rfl, h⟩ | ⟨b, k, b2, rfl, rfl, rfl, h⟩ | ⟨b, k, b2, rfl, rfl, rfl⟩ | ⟨k, b2, rfl, rfl, rfl, h1, h2, h3⟩ | ⟨b, k, rfl, rfl, rfl⟩ | ⟨b, k, rfl, rfl, rfl⟩ | ⟨b, k, rfl, rfl, rfl⟩ | ⟨b, k, rfl, rfl, rfl⟩ | ⟨n, b, k, rfl, rfl, rfl, hn, h⟩ | ⟨n, b, k, rfl, rfl, rfl, hn, h⟩ | ⟨n, b, k, rfl, rfl, rfl, hn⟩ | ⟨n, b, k, rfl, rfl, rfl, hn, hb⟩ | ⟨k, rfl, rfl, rfl⟩ | ⟨n, b, k, rfl, rfl, rfl, hn⟩ | ⟨n, k, rfl, rfl, rfl, hn⟩
  · exact h
  · first | (intro j hj; cases hj; done) | (intro j hj h8; rw [List.mem_singleton.mp hj] at h8; exact absurd h8 (pne (by decide)))
  · first | (intro j hj; cases hj; done) | (intro j hj h8; rw [List.mem_singleton.mp hj] at h8; exact absurd h8 (pne (by decide)))
  · first | (intro j hj; cases hj; done) | (intro j hj h8; rw [List.mem_singleton.mp hj] at h8; exact absurd h8 (pne (by decide)))
  · first | (intro j hj; cases hj; done) | (intro j hj h8; rw [List.mem_singleton.mp hj] at h8; exact absurd h8 (pne (by decide)))
  · intro j hj h8
    simp only [List.mem_cons, List.not_mem_nil, or_false] at hj
    subst hj
    exact k6_opp hb
  · first | (intro j hj; cases hj; done) | (intro j hj h8; rw [List.mem_singleton.mp hj] at h8; exact absurd h8 (pne (by decide)))
  · first | (intro j hj; cases hj; done) | (intro j hj h8; rw [List.mem_singleton.mp hj] at h8; exact absurd h8 (pne (by decide)))
  · first | (intro j hj; cases hj; done) | (intro j hj h8; rw [List.mem_singleton.mp hj] at h8; exact absurd h8 (pne (by decide)))
  · intro j hj h8
    simp only [List.mem_cons, List.not_mem_nil, or_false] at hj
    subst hj
    show k6 (if k = 0 then a_opp b2 else b2)
    split
    · exact k6_opp h3
    · exact h3
  · first | (intro j hj; cases hj; done) | (intro j hj h8; rw [List.mem_singleton.mp hj] at h8; exact absurd h8 (pne (by decide)))
  · first | (intro j hj; cases hj; done) | (intro j hj h8; rw [List.mem_singleton.mp hj] at h8; exact absurd h8 (pne (by decide)))
  · first | (intro j hj; cases hj; done) | (intro j hj h8; rw [List.mem_singleton.mp hj] at h8; exact absurd h8 (pne (by decide)))
  · first | (intro j hj; cases hj; done) | (intro j hj h8; rw [List.mem_singleton.mp hj] at h8; exact absurd h8 (pne (by decide)))
  · first | (intro j hj; cases hj; done) | (intro j hj h8; rw [List.mem_singleton.mp hj] at h8; exact absurd h8 (pne (by decide)))
  · first | (intro j hj; cases hj; done) | (intro j hj h8; rw [List.mem_singleton.mp hj] at h8; exact absurd h8 (pne (by decide)))
  · intro j hj h8
    simp only [List.mem_cons, List.not_mem_nil, or_false] at hj
    exfalso
    revert h8
    subst hj
    rcases hn with rfl | rfl <;> exact pne (by decide)
  · intro j hj h8
    simp only [List.mem_cons, List.not_mem_nil, or_false] at hj
    subst hj
    exfalso
    revert h8
    rcases hn with rfl | rfl <;> rcases hb with rfl | rfl <;> exact pne (by decide)
  · first | (intro j hj; cases hj; done) | (intro j hj h8; rw [List.mem_singleton.mp hj] at h8; exact absurd h8 (pne (by decide)))
  · intro j hj h8
    simp only [List.mem_cons, List.not_mem_nil, or_false] at hj
    exfalso
    revert h8
    rcases hj with rfl | rfl
    · exact pne (by decide)
    · rcases hn with rfl | rfl <;> exact pne (by decide)
  · intro j hj h8
    simp only [List.mem_cons, List.not_mem_nil, or_false] at hj
    exfalso
    revert h8
    rcases hj with rfl | rfl <;> exact pne (by decide)
theorem q_step_fit8 {r : List II} {i : II} (h : fit8 (i :: r)) : fit8 (q_step r i) := by
  obtain ⟨u, o, n, p, h1, h2, R, -⟩ := q_step_rule h
  rw [h1] at h
  rw [h2]
  have h3 := rule_fit8 R (fun j hj => h j (List.mem_append_left _ hj))
  intro j hj
  rcases List.mem_append.mp hj with w | w
  · exact h3 j w
  · exact h j (List.mem_append_right _ w)
theorem q_go_fit8 {s : Bool × List II} {i : II} (h : fit8 s.2) (hi : i.1 = 8 → k6 i.2) : fit8 (q_go us fr s i).2 := by
  unfold q_go
  split
  · exact h
  split
  · exact h
  refine q_step_fit8 (fun j hj => ?_)
  rcases List.mem_cons.mp hj with rfl | hj
  · intro h8
    have h8 : i.1 = 8 := h8
    have : t_goes i.1 = false := by rw [h8]; decide
    simp only [q_im, this]
    exact hi h8
  · exact h j hj
/-- behind a pass, ahead of the rest: what the rest would have done is done -/
theorem q_rew_sem {Λ Λ' : Int32 → KK} (c : List II) (hf : fit8 c)
    (hn : ∀ n k, (n, k) ∈ c → t_goes n = true → ∀ σ : Sg, σ.pd = none → Ole (Λ k σ) (Λ' (fr k) σ))
    (hb : ∀ k t Y dd, us k = true → (∃ p, c = p ++ (13, k) :: t) → q_rew us fr t (false, [(13, k)]) = (dd, Y ++ [(13, k)]) → ∀ σ : Sg, σ.pd = none → Ole (Λ' k σ) (rk Λ' Y bot σ)) :
    ∀ (t : List II) (dd : Bool) (r : List II), (∃ p, c = p ++ t) → fit8 r → (dd = true → t_ends (q0 r 0).1 = true) → ∀ σ : Sg, σ.pd = none → Ole (rk Λ' r (fk Λ t bot) σ) (rk Λ' (q_rew us fr t (dd, r)).2 bot σ) := by
  intro t
  induction t with
  | nil => intro dd r _ _ _ σ _; exact Ole.refl _
  | cons i t ih =>
    intro dd r hp hr hdd σ hσ
    obtain ⟨p, hp⟩ := hp
    have hp' : ∃ p, c = p ++ t := ⟨p ++ [i], by rw [hp]; simp⟩
    have hic : i ∈ c := by rw [hp]; simp
    show Ole _ (rk Λ' (q_rew us fr t (q_go us fr (dd, r) i)).2 bot σ)
    unfold q_go
    simp only
    by_cases h1 : i.1 = 13 ∧ us i.2 = false
    · rw [if_pos h1]
      refine Ole.trans (rk_mono (fun σ => ?_) σ) (ih dd r hp' hr hdd σ hσ)
      obtain ⟨a, b⟩ := i
      obtain ⟨h1, -⟩ := h1
      have h1 : a = 13 := h1
      subst h1
      obtain ⟨st, pd, L, V, f⟩ := σ
      show Ole (one Λ (13, b) (fk Λ t bot) _) _
      cases pd with
      | some q => rw [one_pd _ _ _ _ _ _ _ (by decide)]; exact Ole.none _
      | none => rw [one_13]; exact Ole.refl _
    rw [if_neg h1]
    by_cases h2 : dd = true ∧ ¬ i.1 = 13
    · rw [if_pos h2]
      refine Ole.trans ?_ (ih dd r hp' hr hdd σ hσ)
      exact Ole.of_eq (rk_dead (hdd h2.1) _ _ σ)
    rw [if_neg h2]
    have hfi : fit8 (q_im fr i :: r) := by
      intro j hj
      rcases List.mem_cons.mp hj with rfl | hj
      · intro h8
        have h8 : i.1 = 8 := h8
        have : t_goes i.1 = false := by rw [h8]; decide
        simp only [q_im, this]
        exact hf i hic h8
      · exact hr j hj
    by_cases h3 : i.1 = 13
    · obtain ⟨a, k⟩ := i
      have h3 : a = 13 := h3
      subst h3
      have hu : us k = true := by
        cases hq : us k with
        | true => rfl
        | false => exact absurd ⟨rfl, hq⟩ h1
      have him : q_im fr (13, k) = (13, k) := rfl
      rw [him] at hfi ⊢
      obtain ⟨dd', Y', hY⟩ := q_rew_split (us := us) (fr := fr) k t false []
      obtain ⟨B, hB⟩ := q_step_13 r k
      have hd : t_ends (q0 (q_step r (13, k)) 0).1 = false := by rw [hB]; rfl
      rw [hd, hB]
      have e1 : q_rew us fr t (false, (13, k) :: B) = (dd', Y' ++ (13, k) :: B) := hY B
      have e2 : q_rew us fr t (false, [(13, k)]) = (dd', Y' ++ [(13, k)]) := hY []
      have h5 : ∀ σ : Sg, σ.pd = none → Ole (fk Λ t bot σ) (rk Λ' Y' bot σ) := by
        intro σ hσ
        have := ih false [(13, k)] hp' (fit8_13 k) (by simp) σ hσ
        rw [e2] at this
        simp only [rk_app, rk] at this
        obtain ⟨st, pd, L, V, f⟩ := σ
        cases hσ
        rw [one_13, one_13] at this
        exact this
      rw [e1]
      simp only [rk_app]
      show Ole (rk Λ' r (one Λ (13, k) (fk Λ t bot)) σ) (rk Λ' ((13, k) :: B) (rk Λ' Y' bot) σ)
      refine Ole.trans (rk_mono (fun σ => ?_) σ) (?_ : Ole (rk Λ' ((13, k) :: r) (rk Λ' Y' bot) σ) _)
      · exact one_le (fun w => absurd w (by decide)) (fun _ => rfl) (fun σ w => h5 σ (w.resolve_left (by decide))) σ
      · rw [← hB]
        exact q_step_sem hfi (fun _ σ hσ => hb k t Y' dd' hu ⟨p, hp⟩ e2 σ hσ) σ hσ
    · refine Ole.trans ?_ (ih _ (q_step r (q_im fr i)) hp' (q_step_fit8 hfi) (fun w => w) σ hσ)
      refine Ole.trans (rk_mono (fun σ => ?_) σ) (q_step_sem hfi (fun w => absurd w h3) σ hσ)
      obtain ⟨a, k⟩ := i
      refine one_le (fun w σ hσ => ?_) (fun w => ?_) (fun σ _ => Ole.refl _) σ
      · have := hn a k hic w σ hσ
        simpa only [q_im, w, if_true] using this
      · simp only [q_im, w]; rfl
end RW
