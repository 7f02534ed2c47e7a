/-! A PASS as a whole -/
def lab (i : II) : Bool := decide (i.1 = 13)
def LU (c : List II) : Prop := (c.filter lab).Nodup
theorem nd_rev {l : List II} : l.reverse.Nodup ↔ l.Nodup := by
  unfold List.Nodup
  rw [List.pairwise_reverse]
  exact ⟨fun h => h.imp (fun w => w.symm), fun h => h.imp (fun w => w.symm)⟩
theorem LU_first {p t : List II} {k : Int32} (h : LU (p ++ (13, k) :: t)) : ∀ i ∈ p, ¬ (i.1 = 13 ∧ i.2 = k) := by
  intro i hi w
  have e : i = (13, k) := Prod.ext w.1 w.2
  subst e
  unfold LU at h
  rw [List.filter_append, List.filter_cons, if_pos (show lab (13, k) = true from rfl), List.nodup_append] at h
  exact h.2.2 (13, k) (List.mem_filter.mpr ⟨hi, rfl⟩) (13, k) (List.mem_cons_self ..) rfl
theorem LU_after {p t : List II} {k : Int32} (h : LU (p ++ (13, k) :: t)) : after (p ++ (13, k) :: t) k = some t := after_of (LU_first h)
theorem rule_lab {u : Bool} {o n : List II} (R : Rule u o n) : n.filter lab = o.filter lab := by
  rcases R with ⟨i, rfl, rfl, rfl⟩ | ⟨b, k, rfl, rfl, rfl⟩ | ⟨b, k, rfl, rfl, rfl⟩ | ⟨b, k, rfl, rfl, rfl⟩ | ⟨b, k, rfl, rfl, rfl⟩ | ⟨b, k, rfl, rfl, rfl, h⟩ | ⟨b, k, rfl, rfl, rfl, h⟩ | ⟨b, k, b2, rfl, rfl, rfl, h⟩ | ⟨b, k, b2, rfl, rfl, rfl⟩ | ⟨k, b2, rfl, rfl, rfl, h, h1, h2⟩ | ⟨b, k, rfl, rfl, rfl⟩ | ⟨b, k, rfl, rfl, rfl⟩ | ⟨b, k, rfl, rfl, rfl⟩ | ⟨b, k, rfl, rfl, rfl⟩ | ⟨n, b, k, rfl, rfl, rfl, hn, h⟩ | ⟨n, b, k, rfl, rfl, rfl, hn, h⟩ | ⟨n, b, k, rfl, rfl, rfl, hn⟩ | ⟨n, b, k, rfl, rfl, rfl, hn, h⟩ | ⟨k, rfl, rfl, rfl⟩ | ⟨n, b, k, rfl, rfl, rfl, hn⟩ | ⟨n, k, rfl, rfl, rfl, hn⟩
  · rfl
  · rfl
  · rfl
  · rfl
  · rfl
  · rfl
  · rfl
  · rfl
  · rfl
  · rfl
  · rfl
  · rfl
  · rfl
  · rfl
  · rcases hn with rfl | rfl <;> rfl
  · rcases hn with rfl | rfl <;> rfl
  · rcases hn with rfl | rfl <;> rfl
  · rcases hn with rfl | rfl <;> rcases h with rfl | rfl <;> rfl
  · rfl
  · rcases hn with rfl | rfl <;> rfl
  · rcases hn with rfl | rfl <;> rfl
theorem q_step_lab {r : List II} {i : II} (h : fit8 (i :: r)) : (q_step r i).filter lab = (i :: r).filter lab := by
  obtain ⟨u, o, n, p, h1, h2, R, -⟩ := q_step_rule h
  rw [h1, h2, List.filter_append, List.filter_append, rule_lab R]
section PS
variable {us : Int32 → Bool} {fr : Int32 → Int32}
theorem fit8_im {i : II} {r : List II} (hi : i.1 = 8 → k6 i.2) (hr : fit8 r) : fit8 (q_im fr i :: r) := by
  intro j hj
  rcases List.mem_cons.mp hj with rfl | hj
  · intro h8
    have h8 : i.1 = 8 := h8
    have : t_goes i.1 = false := by rw [h8]; decide
    simp only [q_im, this]
    exact hi h8
  · exact hr j hj
theorem q_rew_fit8 (c : List II) : ∀ (s : Bool × List II), fit8 c → fit8 s.2 → fit8 (q_rew us fr c s).2 := by
  induction c with
  | nil => intro s _ h; exact h
  | cons i c ih =>
    intro s hc hs
    exact ih _ (fun j hj => hc j (List.mem_cons_of_mem _ hj)) (q_go_fit8 hs (hc i (List.mem_cons_self ..)))
theorem q_rew_lab (c : List II) : ∀ (s : Bool × List II), fit8 c → fit8 s.2 → List.Sublist ((q_rew us fr c s).2.filter lab) (c.reverse.filter lab ++ s.2.filter lab) := by
  induction c with
  | nil => intro s _ _; exact List.Sublist.refl _
  | cons i c ih =>
    intro s hc hs
    have hi := hc i (List.mem_cons_self ..)
    have h1 := ih (q_go us fr s i) (fun j hj => hc j (List.mem_cons_of_mem _ hj)) (q_go_fit8 hs hi)
    refine List.Sublist.trans h1 ?_
    rw [List.reverse_cons, List.filter_append, List.append_assoc]
    refine List.Sublist.append (List.Sublist.refl _) ?_
    rw [← List.filter_append]
    unfold q_go
    split
    · exact List.Sublist.filter _ (List.sublist_cons_self _ _)
    split
    · exact List.Sublist.filter _ (List.sublist_cons_self _ _)
    show List.Sublist ((q_step s.2 (q_im fr i)).filter lab) _
    rw [q_step_lab (fit8_im hi hs)]
    show List.Sublist ((q_im fr i :: s.2).filter lab) ((i :: s.2).filter lab)
    by_cases h13 : i.1 = 13
    · have : t_goes i.1 = false := by rw [h13]; decide
      have e : q_im fr i = i := by simp only [q_im, this]; rfl
      rw [e]
      exact List.Sublist.refl _
    · have e1 : lab i = false := by simp [lab, h13]
      have e2 : lab (q_im fr i) = false := by simp [lab, q_im, h13]
      rw [List.filter_cons, List.filter_cons, e1, e2]
      exact List.Sublist.refl _
def q_code (us : Int32 → Bool) (fr : Int32 → Int32) (c : List II) : List II := (q_rew us fr c (false, [])).2.reverse
theorem q_code_LU {c : List II} (hf : fit8 c) (h : LU c) : LU (q_code us fr c) := by
  unfold LU q_code
  rw [List.filter_reverse, nd_rev]
  have h1 := q_rew_lab (us := us) (fr := fr) c (false, []) hf (by intro j hj; cases hj)
  refine h1.nodup ?_
  rw [List.filter_nil, List.append_nil, List.filter_reverse, nd_rev]
  exact h
theorem q_code_fit8 {c : List II} (hf : fit8 c) : fit8 (q_code us fr c) := by
  intro j hj
  exact q_rew_fit8 c (false, []) hf (by intro j hj; cases hj) j (List.mem_reverse.mp hj)
/-- a label that is used stays, with what comes behind it -/
theorem q_code_at {p t : List II} {k : Int32} (hu : us k = true) : ∃ (B Y : List II) (dd : Bool), q_rew us fr t (false, [(13, k)]) = (dd, Y ++ [(13, k)]) ∧ q_code us fr (p ++ (13, k) :: t) = B.reverse ++ (13, k) :: Y.reverse := by
  obtain ⟨dd, Y, hY⟩ := q_rew_split (us := us) (fr := fr) k t false []
  obtain ⟨B, hB⟩ := q_step_13 (q_rew us fr p (false, [])).2 k
  refine ⟨B, Y, dd, hY [], ?_⟩
  unfold q_code
  rw [q_rew_app]
  show (q_rew us fr t (q_go us fr _ (13, k))).2.reverse = _
  have e : q_go us fr (q_rew us fr p (false, [])) (13, k) = (false, (13, k) :: B) := by
    unfold q_go
    rw [if_neg (by rintro ⟨-, w⟩; rw [hu] at w; cases w), if_neg (by rintro ⟨-, w⟩; exact w rfl)]
    have him : q_im fr (13, k) = (13, k) := rfl
    rw [him, hB]
    rfl
  rw [e]
  have := hY B
  simp only [List.nil_append] at this
  rw [this]
  simp
theorem q_code_sem {c : List II} (hf : fit8 c) (hLU : LU c) (hus : ∀ n k, (n, k) ∈ c → t_goes n = true → us (fr k) = true)
    (hfr : ∀ n k (σ : Sg), σ.pd = none → Ole (Lv c n k σ) (Lv c n (fr k) σ)) :
    ∀ n, (∀ k, us k = true → ∀ σ : Sg, σ.pd = none → Ole (Lv c n k σ) (Lv (q_code us fr c) n k σ)) ∧ ∀ σ : Sg, σ.pd = none → Ole (fk (Lv c n) c bot σ) (fk (Lv (q_code us fr c) n) (q_code us fr c) bot σ) := by
  have hLU' : LU (q_code us fr c) := q_code_LU hf hLU
  have key : ∀ n, (∀ k, us k = true → ∀ σ : Sg, σ.pd = none → Ole (Lv c n k σ) (Lv (q_code us fr c) n k σ)) → ∀ (t : List II) (r : List II), (∃ p, c = p ++ t) → fit8 r → ∀ σ : Sg, σ.pd = none → Ole (rk (Lv (q_code us fr c) n) r (fk (Lv c n) t bot) σ) (rk (Lv (q_code us fr c) n) (q_rew us fr t (false, r)).2 bot σ) := by
    intro n hL t r hp hr σ hσ
    refine q_rew_sem c hf (fun a k hk ha σ hσ => ?_) (fun k t Y dd hu hp e σ hσ => ?_) t false r hp hr (fun w => by cases w) σ hσ
    · exact (hfr n k σ hσ).trans (hL (fr k) (hus a k hk ha) σ hσ)
    · obtain ⟨p, hp⟩ := hp
      obtain ⟨B, Y1, dd1, e1, e2⟩ := q_code_at (us := us) (fr := fr) (p := p) (t := t) hu
      rw [e] at e1
      have hY : Y = Y1 := by
        have := congrArg Prod.snd e1
        simpa using this
      subst hY
      rw [← hp] at e2
      have ha : after (q_code us fr c) k = some Y.reverse := by
        rw [e2] at hLU' ⊢
        exact LU_after hLU'
      refine (Lv_mono _ n k σ).trans ?_
      rw [Lv_succ ha, rk_fk]
      exact Ole.refl _
  have first : ∀ n k, us k = true → ∀ σ : Sg, σ.pd = none → Ole (Lv c n k σ) (Lv (q_code us fr c) n k σ) := by
    intro n
    induction n with
    | zero => intro k _ σ _; exact Ole.none _
    | succ n ih =>
      intro k hu σ hσ
      cases ha : after c k with
      | none => simp only [Lv, ha]; exact Ole.none _
      | some t =>
        obtain ⟨p, hp, -⟩ := after_split ha
        obtain ⟨B, Y, dd, e1, e2⟩ := q_code_at (us := us) (fr := fr) (p := p) (t := t) hu
        rw [← hp] at e2
        have ha' : after (q_code us fr c) k = some Y.reverse := by
          rw [e2] at hLU' ⊢
          exact LU_after hLU'
        rw [Lv_succ ha, Lv_succ ha']
        have h5 := key n ih t [(13, k)] ⟨p ++ [(13, k)], by rw [hp]; simp⟩ (fit8_13 k) σ hσ
        rw [e1] at h5
        simp only [rk_app, rk] at h5
        obtain ⟨st, pd, L, V, f⟩ := σ
        cases hσ
        rw [one_13, one_13, rk_fk] at h5
        exact h5
  intro n
  refine ⟨first n, fun σ hσ => ?_⟩
  have h5 := key n (first n) c [] ⟨[], rfl⟩ (by intro j hj; cases hj) σ hσ
  have h6 : Ole (fk (Lv c n) c bot σ) (rk (Lv (q_code us fr c) n) (q_rew us fr c (false, [])).2 bot σ) := h5
  rw [rk_fk] at h6
  exact h6
end PS
