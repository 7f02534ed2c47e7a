/-! ... and what it does -/
theorem rst_split {c : List II} {D : Nat → Option Nat} {j : Nat} (hk : kp c D j = true) (hj : j < c.length) : ∀ (d i : Nat), i + d = c.length → i ≤ j → ∃ A, rst c D d i = A ++ q0 c j :: rst c D (c.length - j - 1) (j + 1) := by
  intro d
  induction d with
  | zero => intro i h1 h2; omega
  | succ d ih =>
    intro i h1 h2
    rw [rst]
    by_cases e : i = j
    · subst e
      rw [if_pos hk, show c.length - i - 1 = d by omega]
      exact ⟨[], rfl⟩
    · obtain ⟨A, hA⟩ := ih (i + 1) (by omega) (by omega)
      rw [hA]
      split
      · exact ⟨q0 c i :: A, rfl⟩
      · exact ⟨A, rfl⟩
theorem mem_rst {c : List II} {D : Nat → Option Nat} {x : II} : ∀ (d i : Nat), i + d = c.length → x ∈ rst c D d i → ∃ j, i ≤ j ∧ j < c.length ∧ kp c D j = true ∧ x = q0 c j := by
  intro d
  induction d with
  | zero => intro i _ h; cases h
  | succ d ih =>
    intro i hi h
    rw [rst] at h
    split at h
    · rename_i hk
      rcases List.mem_cons.mp h with rfl | h
      · exact ⟨i, Nat.le_refl _, by omega, hk, rfl⟩
      · obtain ⟨j, h1, h2⟩ := ih (i + 1) (by omega) h
        exact ⟨j, by omega, h2⟩
    · obtain ⟨j, h1, h2⟩ := ih (i + 1) (by omega) h
      exact ⟨j, by omega, h2⟩
theorem rst_LU {c : List II} {D : Nat → Option Nat} (hLU : LU c) : LU (rst c D c.length 0) := by
  have := rst_sub (c := c) (D := D) c.length 0 (by omega)
  rw [List.drop_zero] at this
  exact (this.filter lab).nodup hLU
/-- a label that is reached stays, with what is reached behind it -/
theorem rst_after {c : List II} {D : Nat → Option Nat} (hLU : LU c) {k : Int32} {p h : Nat} (hp : plc c k = some p) (hD : D p = some h) : after (rst c D c.length 0) k = some (rst c D (c.length - p - 1) (p + 1)) := by
  obtain ⟨A, hA⟩ := rst_split (kp_D (c := c) hD) (plc_lt hp) c.length 0 (by omega) (Nat.zero_le _)
  rw [plc_nb hp] at hA
  have h2 := rst_LU (D := D) hLU
  rw [hA] at h2 ⊢
  exact LU_after h2
theorem goal_D {c : List II} {D : Nat → Option Nat} (hOk : OkH c D) {i h j : Nat} (hi : D i = some h) (hg : gol c i = some j) : ∃ h', D j = some h' :=
  ⟨_, ((hOk.2 i h hi).2 (j, h - tkn (nb c i)) (mem_succs.mpr (.inr ⟨hg, rfl⟩))).2.2⟩
theorem next_D {c : List II} {D : Nat → Option Nat} (hOk : OkH c D) {i h j : Nat} (hi : D i = some h) (hg : nxt c i = some j) : ∃ h', D j = some h' :=
  ⟨_, ((hOk.2 i h hi).2 (j, h - tkn (nb c i) + gvn (nb c i)) (mem_succs.mpr (.inl ⟨hg, rfl⟩))).2.2⟩
theorem copy_good {c : List II} {D : Nat → Option Nat} {ρ : Nat → Nat} (hf : fitA c) (hLU : LU c) (hjp : ∀ k, goals c k → ∃ t, after c k = some t) (h18 : ∀ i, nb c i = 18 → nb c (i + 1) = 12) (hOk : OkH c D) (hSo : Sound c D) (hρ : ∀ i j, fre' c D i = true → fre' c D j = true → cE c i j ≠ 0 → ρ j < ρ i) : Good (CD c D ρ) (rst c D c.length 0) := by
  have hsub := rst_sub (c := c) (D := D) c.length 0 (by omega)
  rw [List.drop_zero] at hsub
  refine ⟨fun x hx => hf x (hsub.subset hx), rst_LU hLU, ?_, ?_⟩
  · rintro k ⟨n, hn, hm⟩
    obtain ⟨j, -, hj, hkj, e⟩ := mem_rst c.length 0 (by omega) hm
    have e1 : nb c j = n := by unfold nb; rw [← e]
    have e2 : ar c j = k := by unfold ar; rw [← e]
    obtain ⟨t, ht⟩ := hjp k ⟨n, hn, by rw [e, ← e]; exact hsub.subset hm⟩
    have hp : plc c k = some (c.length - t.length - 1) := by unfold plc; rw [ht]; rfl
    have hD : ∃ h', D (c.length - t.length - 1) = some h' := by
      cases hv : D j with
      | some h =>
        refine goal_D hOk hv ?_
        unfold gol
        rw [if_neg (fun w => by rw [e1] at w; rw [w] at hn; exact absurd hn (by decide)), e1, if_pos hn, e2]
        exact hp
      | none =>
        have hq : 1 ≤ j ∧ nb c (j - 1) = 18 ∧ (D (j - 1)).isSome = true := by simpa [kp, hv] using hkj
        obtain ⟨h, hh⟩ := Option.isSome_iff_exists.mp hq.2.2
        refine goal_D hOk hh ?_
        unfold gol
        rw [if_pos hq.2.1, show j - 1 + 1 = j by omega, e2]
        exact hp
    obtain ⟨h', hD⟩ := hD
    exact ⟨_, rst_after hLU hp hD⟩
  · refine (rst_ck hf hLU hjp h18 hOk hSo hρ c.length 0 (by omega)).1 0 _ hOk.1 (fun _ => ?_)
    have := le_sum (ρ := ρ) (List.mem_range.mpr (hSo 0 0 hOk.1).2.1)
    show ρ 0 < ((List.range c.length).map ρ).sum + 1
    omega
theorem copy_sem {c : List II} {D : Nat → Option Nat} (hLU : LU c) (hjp : ∀ k, goals c k → ∃ t, after c k = some t) (h18 : ∀ i, nb c i = 18 → nb c (i + 1) = 12) (hOk : OkH c D) (hSo : Sound c D) :
    ∀ n, (∀ k p h, plc c k = some p → D p = some h → ∀ σ : Sg, σ.pd = none → Ole (Lv c n k σ) (Lv (rst c D c.length 0) n k σ)) ∧
      ∀ d i h, i + d = c.length → D i = some h → ∀ σ : Sg, σ.pd = none → Ole (fk (Lv c n) (c.drop i) bot σ) (fk (Lv (rst c D c.length 0) n) (rst c D d i) bot σ) := by
  have hplg : ∀ k, goals c k → ∃ j, plc c k = some j := by
    intro k hk
    obtain ⟨t, ht⟩ := hjp k hk
    exact ⟨c.length - t.length - 1, by unfold plc; rw [ht]; rfl⟩
  have second : ∀ n, (∀ k p h, plc c k = some p → D p = some h → ∀ σ : Sg, σ.pd = none → Ole (Lv c n k σ) (Lv (rst c D c.length 0) n k σ)) →
      ∀ d i h, i + d = c.length → D i = some h → ∀ σ : Sg, σ.pd = none → Ole (fk (Lv c n) (c.drop i) bot σ) (fk (Lv (rst c D c.length 0) n) (rst c D d i) bot σ) := by
    intro n J d
    induction d using Nat.strongRecOn with
    | ind d ih =>
    intro i h hid hi σ hσ
    have hil := (hSo i h hi).2.1
    obtain ⟨d', rfl⟩ : ∃ d', d = d' + 1 := ⟨d - 1, by omega⟩
    rw [drop_q0 hil, rst, if_pos (kp_D hi)]
    have eq0 : q0 c i = (nb c i, ar c i) := rfl
    rw [eq0]
    show Ole (one (Lv c n) (nb c i, ar c i) (fk (Lv c n) (c.drop (i + 1)) bot) σ) (one (Lv (rst c D c.length 0) n) (nb c i, ar c i) (fk (Lv (rst c D c.length 0) n) (rst c D d' (i + 1)) bot) σ)
    have hΛ : t_goes (nb c i) = true → ∀ σ : Sg, σ.pd = none → Ole (Lv c n (ar c i) σ) (Lv (rst c D c.length 0) n (ar c i) σ) := by
      intro hg σ hσ
      obtain ⟨p, hp⟩ := hplg (ar c i) ⟨nb c i, hg, nb_mem hil⟩
      obtain ⟨h', hD⟩ := goal_D hOk hi (show gol c i = some p by
        unfold gol
        rw [if_neg (fun w => by rw [w] at hg; exact absurd hg (by decide)), if_pos hg]
        exact hp)
      exact J _ p h' hp hD σ hσ
    by_cases he : t_ends (nb c i) = true
    · rw [one_ends (i := (nb c i, ar c i)) he (fk (Lv c n) (c.drop (i + 1)) bot) bot, one_ends (i := (nb c i, ar c i)) he (fk (Lv (rst c D c.length 0) n) (rst c D d' (i + 1)) bot) bot]
      exact one_le hΛ (fun _ => rfl) (fun _ _ => Ole.refl _) σ
    by_cases hx : nb c i = 18
    · have h12 := h18 i hx
      have hil2 : i + 1 < c.length := by
        rcases Nat.lt_or_ge (i + 1) c.length with w | w
        · exact w
        · rw [nb_out w] at h12; exact absurd h12 (by decide)
      obtain ⟨d2, rfl⟩ : ∃ d2, d' = d2 + 1 := ⟨d' - 1, by omega⟩
      have hk1 : kp c D (i + 1) = true := by
        unfold kp
        rw [Nat.add_sub_cancel, hx, hi]
        simp
      have hn : nxt c i = some (i + 2) := by unfold nxt; rw [hx, if_neg (by decide), if_pos rfl]
      obtain ⟨h', hD⟩ := next_D hOk hi hn
      rw [drop_q0 hil2, rst, if_pos hk1]
      have eq1 : q0 c (i + 1) = (nb c (i + 1), ar c (i + 1)) := rfl
      rw [eq1, h12, hx]
      obtain ⟨p, hp⟩ := hplg (ar c (i + 1)) ⟨nb c (i + 1), by rw [h12]; rfl, nb_mem hil2⟩
      obtain ⟨h2, hD2⟩ := goal_D hOk hi (show gol c i = some p by unfold gol; rw [if_pos hx]; exact hp)
      obtain ⟨st, pd, L, V, f⟩ := σ
      have hσ : pd = none := hσ
      subst hσ
      rw [one_18, one_18]
      show Ole (one _ (12, ar c (i + 1)) (fk (Lv c n) (c.drop (i + 1 + 1)) bot) _) (one _ (12, ar c (i + 1)) (fk _ (rst c D d2 (i + 1 + 1)) bot) _)
      rw [one_12p, one_12p]
      refine Ole.ite (fun _ => J _ p h2 hp hD2 _ rfl) (fun _ => ?_)
      exact ih d2 (by omega) (i + 2) h' (by omega) hD _ rfl
    · have hn : nxt c i = some (i + 1) := by unfold nxt; rw [if_neg he, if_neg hx]
      obtain ⟨h', hD⟩ := next_D hOk hi hn
      refine one_le hΛ (fun _ => rfl) (fun σ w => ?_) σ
      exact ih d' (by omega) (i + 1) h' (by omega) hD σ (w.resolve_left hx)
  intro n
  have J : ∀ n, ∀ k p h, plc c k = some p → D p = some h → ∀ σ : Sg, σ.pd = none → Ole (Lv c n k σ) (Lv (rst c D c.length 0) n k σ) := by
    intro n
    induction n with
    | zero => intro k p h _ _ σ _; exact Ole.none _
    | succ n ih =>
      intro k p h hp hD σ hσ
      have hpl := plc_lt hp
      have e13 : nb c p = 13 ∧ ar c p = k := by unfold nb ar; rw [plc_nb hp]; exact ⟨rfl, rfl⟩
      have ha := (plc_self hLU hpl e13.1).2
      rw [e13.2] at ha
      rw [Lv_succ ha, Lv_succ (rst_after hLU hp hD)]
      have hn : nxt c p = some (p + 1) := by unfold nxt; rw [e13.1, if_neg (by decide), if_neg (by decide)]
      obtain ⟨h', hD'⟩ := next_D hOk hD hn
      exact second n ih _ (p + 1) h' (by omega) hD' σ hσ
  exact ⟨J n, second n (J n)⟩
