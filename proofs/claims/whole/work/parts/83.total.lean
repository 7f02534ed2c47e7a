/-! EVERY RUN ENDS -/
section ONES
variable (Λ : Int32 → KK) (κ : KK) (st L V : Nat → Int32) (f k : Int32)
theorem one_2 : one Λ (2, k) κ ⟨st, none, L, V, f⟩ = κ ⟨s_pop st 1, none, mL L k (st 0), V, f⟩ := by
  rw [one, if_neg (pne (by decide)), if_neg (pne (by decide)), if_pos rfl]
theorem one_3 : one Λ (3, k) κ ⟨st, none, L, V, f⟩ = (if m_hasW (st 0).toInt64 = true then κ ⟨s_psh (s_pop st 1) (mVa V (st 0)), none, L, V, f⟩ else some (2, 0, f, L, V)) := by
  rw [one, if_neg (pne (by decide)), if_neg (pne (by decide)), if_neg (pne (by decide)), if_pos rfl]
theorem one_4 : one Λ (4, k) κ ⟨st, none, L, V, f⟩ = (if m_hasW (st 0).toInt64 = true then κ ⟨s_pop st 2, none, L, mV V (st 0) (st 1), f⟩ else some (2, 0, f, L, V)) := by
  rw [one, if_neg (pne (by decide)), if_neg (pne (by decide)), if_neg (pne (by decide)), if_neg (pne (by decide)), if_pos rfl]
theorem one_9 : one Λ (9, k) κ ⟨st, none, L, V, f⟩ = κ ⟨s_psh (s_psh (s_pop st 2) (st 0)) (a_compare k (st 1) (st 0)), none, L, V, f⟩ := by
  rw [one, if_neg (pne (by decide)), if_neg (pne (by decide)), if_neg (pne (by decide)), if_neg (pne (by decide)), if_neg (pne (by decide)), if_neg (pne (by decide)), if_neg (pne (by decide)), if_neg (pne (by decide)), if_neg (pne (by decide)), if_pos rfl]
theorem one_15 : one Λ (15, k) κ ⟨st, none, L, V, f⟩ = (if f = 0 then some (1, 0, f, L, V) else κ ⟨st, none, L, V, f - 1⟩) := by
  rw [one, if_neg (pne (by decide)), if_neg (pne (by decide)), if_neg (pne (by decide)), if_neg (pne (by decide)), if_neg (pne (by decide)), if_neg (pne (by decide)), if_neg (pne (by decide)), if_neg (pne (by decide)), if_neg (pne (by decide)), if_neg (pne (by decide)), if_neg (pne (by decide)), if_neg (pne (by decide)), if_neg (pne (by decide)), if_neg (pne (by decide)), if_neg (pne (by decide)), if_pos rfl]
theorem one_16 : one Λ (16, k) κ ⟨st, none, L, V, f⟩ = some (0, st 0, f, L, V) := by
  rw [one, if_neg (pne (by decide)), if_neg (pne (by decide)), if_neg (pne (by decide)), if_neg (pne (by decide)), if_neg (pne (by decide)), if_neg (pne (by decide)), if_neg (pne (by decide)), if_neg (pne (by decide)), if_neg (pne (by decide)), if_neg (pne (by decide)), if_neg (pne (by decide)), if_neg (pne (by decide)), if_neg (pne (by decide)), if_neg (pne (by decide)), if_neg (pne (by decide)), if_neg (pne (by decide)), if_pos rfl]
theorem one_17 : one Λ (17, k) κ ⟨st, none, L, V, f⟩ = some (4, 0, f, L, V) := by
  rw [one, if_neg (pne (by decide)), if_neg (pne (by decide)), if_neg (pne (by decide)), if_neg (pne (by decide)), if_neg (pne (by decide)), if_neg (pne (by decide)), if_neg (pne (by decide)), if_neg (pne (by decide)), if_neg (pne (by decide)), if_neg (pne (by decide)), if_neg (pne (by decide)), if_neg (pne (by decide)), if_neg (pne (by decide)), if_neg (pne (by decide)), if_neg (pne (by decide)), if_neg (pne (by decide)), if_neg (pne (by decide)), if_pos rfl]
theorem one_19 : one Λ (19, k) κ ⟨st, none, L, V, f⟩ = (if m_hasW (m_ba (st 0) (st 1)) = true then κ ⟨s_psh (s_pop st 2) (m_fb V (st 0) (st 1)), none, L, V, f⟩ else some (2, 0, f, L, V)) := by
  rw [one, if_neg (pne (by decide)), if_neg (pne (by decide)), if_neg (pne (by decide)), if_neg (pne (by decide)), if_neg (pne (by decide)), if_neg (pne (by decide)), if_neg (pne (by decide)), if_neg (pne (by decide)), if_neg (pne (by decide)), if_neg (pne (by decide)), if_neg (pne (by decide)), if_neg (pne (by decide)), if_neg (pne (by decide)), if_neg (pne (by decide)), if_neg (pne (by decide)), if_neg (pne (by decide)), if_neg (pne (by decide)), if_neg (pne (by decide)), if_neg (pne (by decide)), if_pos rfl]
end ONES
/-- an instruction ends the run, goes on to the next, or jumps -/
abbrev Tri (n k : Int32) (σ : Sg) : Prop :=
  (∃ R, ∀ Λ κ, one Λ (n, k) κ σ = some R) ∨
  (t_ends n = false ∧ ∃ σ' : Sg, σ'.pd = none ∧ ((¬ n = 15 ∧ σ'.f = σ.f) ∨ (n = 15 ∧ ¬ σ.f = 0 ∧ σ'.f = σ.f - 1)) ∧ ∀ Λ κ, one Λ (n, k) κ σ = κ σ') ∨
  (t_goes n = true ∧ ∃ σ' : Sg, σ'.pd = none ∧ σ'.f = σ.f ∧ ∀ Λ κ, one Λ (n, k) κ σ = Λ k σ')
theorem one_tri {n k : Int32} {σ : Sg} (hn : ¬ n < 0 ∧ n < 21) (h18 : ¬ n = 18) (hσ : σ.pd = none) : Tri n k σ := by
  obtain ⟨st, pd, L, V, f⟩ := σ
  have hσ : pd = none := hσ
  subst hσ
  obtain ⟨j, hj, rfl⟩ := nI_of hn.1
  have hj2 : j < 21 := (nI_ltI hj (by omega)).mp hn.2
  have hcases : j = 0 ∨ j = 1 ∨ j = 2 ∨ j = 3 ∨ j = 4 ∨ j = 5 ∨ j = 6 ∨ j = 7 ∨ j = 8 ∨ j = 9 ∨ j = 10 ∨ j = 11 ∨ j = 12 ∨ j = 13 ∨ j = 14 ∨ j = 15 ∨ j = 16 ∨ j = 17 ∨ j = 18 ∨ j = 19 ∨ j = 20 := by omega
  rcases hcases with rfl | rfl | rfl | rfl | rfl | rfl | rfl | rfl | rfl | rfl | rfl | rfl | rfl | rfl | rfl | rfl | rfl | rfl | rfl | rfl | rfl
  · exact .inr (.inl ⟨by decide, (s_psh st k, none, L, V, f), rfl, .inl ⟨by decide, rfl⟩, fun Λ κ => one_0 Λ κ st L V f k⟩)
  · exact .inr (.inl ⟨by decide, (s_psh st (mLa L k), none, L, V, f), rfl, .inl ⟨by decide, rfl⟩, fun Λ κ => one_1 Λ κ st L V f k⟩)
  · exact .inr (.inl ⟨by decide, (s_pop st 1, none, mL L k (st 0), V, f), rfl, .inl ⟨by decide, rfl⟩, fun Λ κ => one_2 Λ κ st L V f k⟩)
  · by_cases c : m_hasW (st 0).toInt64 = true
    · exact .inr (.inl ⟨by decide, (s_psh (s_pop st 1) (mVa V (st 0)), none, L, V, f), rfl, .inl ⟨by decide, rfl⟩, fun Λ κ => (one_3 Λ κ st L V f k).trans (if_pos c)⟩)
    · exact .inl ⟨_, fun Λ κ => (one_3 Λ κ st L V f k).trans (if_neg c)⟩
  · by_cases c : m_hasW (st 0).toInt64 = true
    · exact .inr (.inl ⟨by decide, (s_pop st 2, none, L, mV V (st 0) (st 1), f), rfl, .inl ⟨by decide, rfl⟩, fun Λ κ => (one_4 Λ κ st L V f k).trans (if_pos c)⟩)
    · exact .inl ⟨_, fun Λ κ => (one_4 Λ κ st L V f k).trans (if_neg c)⟩
  · exact .inr (.inl ⟨by decide, (s_psh (s_pop st 1) (-st 0), none, L, V, f), rfl, .inl ⟨by decide, rfl⟩, fun Λ κ => one_5 Λ κ st L V f k⟩)
  · exact .inr (.inl ⟨by decide, (s_psh (s_pop st 1) (st 0 ^^^ (-1)), none, L, V, f), rfl, .inl ⟨by decide, rfl⟩, fun Λ κ => one_6 Λ κ st L V f k⟩)
  · by_cases c : st 0 = 0 ∧ a_divides k = true
    · exact .inl ⟨_, fun Λ κ => (one_7 Λ κ st L V f k).trans (if_pos c)⟩
    · exact .inr (.inl ⟨by decide, (s_psh (s_pop st 2) (a_calc k (st 1) (st 0)), none, L, V, f), rfl, .inl ⟨by decide, rfl⟩, fun Λ κ => (one_7 Λ κ st L V f k).trans (if_neg c)⟩)
  · exact .inr (.inl ⟨by decide, (s_psh (s_pop st 2) (a_compare k (st 1) (st 0)), none, L, V, f), rfl, .inl ⟨by decide, rfl⟩, fun Λ κ => one_8 Λ κ st L V f k⟩)
  · exact .inr (.inl ⟨by decide, (s_psh (s_psh (s_pop st 2) (st 0)) (a_compare k (st 1) (st 0)), none, L, V, f), rfl, .inl ⟨by decide, rfl⟩, fun Λ κ => one_9 Λ κ st L V f k⟩)
  · exact .inr (.inr ⟨by decide, (st, none, L, V, f), rfl, rfl, fun Λ κ => one_10 Λ κ st L V f k⟩)
  · by_cases c : st 0 = 0
    · exact .inr (.inr ⟨by decide, (s_pop st 1, none, L, V, f), rfl, rfl, fun Λ κ => (one_11 Λ κ st L V f k).trans (if_pos c)⟩)
    · exact .inr (.inl ⟨by decide, (s_pop st 1, none, L, V, f), rfl, .inl ⟨by decide, rfl⟩, fun Λ κ => (one_11 Λ κ st L V f k).trans (if_neg c)⟩)
  · by_cases c : st 0 = 0
    · exact .inr (.inl ⟨by decide, (s_pop st 1, none, L, V, f), rfl, .inl ⟨by decide, rfl⟩, fun Λ κ => (one_12 Λ κ st L V f k).trans (if_pos c)⟩)
    · exact .inr (.inr ⟨by decide, (s_pop st 1, none, L, V, f), rfl, rfl, fun Λ κ => (one_12 Λ κ st L V f k).trans (if_neg c)⟩)
  · exact .inr (.inl ⟨by decide, (st, none, L, V, f), rfl, .inl ⟨by decide, rfl⟩, fun Λ κ => one_13 Λ κ st L V f k⟩)
  · exact .inr (.inl ⟨by decide, (s_pop st 1, none, L, V, f), rfl, .inl ⟨by decide, rfl⟩, fun Λ κ => one_14 Λ κ st L V f k⟩)
  · by_cases c : f = 0
    · exact .inl ⟨_, fun Λ κ => (one_15 Λ κ st L V f k).trans (if_pos c)⟩
    · exact .inr (.inl ⟨by decide, (st, none, L, V, f - 1), rfl, .inr ⟨by decide, c, rfl⟩, fun Λ κ => (one_15 Λ κ st L V f k).trans (if_neg c)⟩)
  · exact .inl ⟨_, fun Λ κ => one_16 Λ κ st L V f k⟩
  · exact .inl ⟨_, fun Λ κ => one_17 Λ κ st L V f k⟩
  · exact absurd (by decide) h18
  · by_cases c : m_hasW (m_ba (st 0) (st 1)) = true
    · exact .inr (.inl ⟨by decide, (s_psh (s_pop st 2) (m_fb V (st 0) (st 1)), none, L, V, f), rfl, .inl ⟨by decide, rfl⟩, fun Λ κ => (one_19 Λ κ st L V f k).trans (if_pos c)⟩)
    · exact .inl ⟨_, fun Λ κ => (one_19 Λ κ st L V f k).trans (if_neg c)⟩
  · by_cases c : m_hasW (m_ba (st 0) (st 1)) = true
    · exact .inr (.inl ⟨by decide, (s_pop st 3, none, L, mV V (m_ba (st 0) (st 1)).toInt32 (m_sb V (st 0) (st 1) (st 2)), f), rfl, .inl ⟨by decide, rfl⟩, fun Λ κ => (one_20 Λ κ st L V f k).trans (if_pos c)⟩)
    · exact .inl ⟨_, fun Λ κ => (one_20 Λ κ st L V f k).trans (if_neg c)⟩
theorem total {c : List II} {D : Nat → Option Nat} {ρ : Nat → Nat} (hf : fitA c) (hLU : LU c) (hjp : ∀ k, goals c k → ∃ t, after c k = some t) (h18 : ∀ i, nb c i = 18 → nb c (i + 1) = 12) (hOk : OkH c D) (hSo : Sound c D) (hρ : ∀ i j, fre' c D i = true → fre' c D j = true → cE c i j ≠ 0 → ρ j < ρ i) :
    ∀ (F : Nat), F < 2 ^ 30 → ∀ (r i h : Nat), D i = some h → (if nb c i = 15 then 0 else ρ i + 1) = r → ∀ σ : Sg, σ.pd = none → σ.f = nI F → ∃ n R, fk (Lv c n) (c.drop i) bot σ = some R := by
  have frD : ∀ j h, D j = some h → ¬ nb c j = 15 → fre' c D j = true := fun j h h1 h2 => by simp [fre', h1, h2]
  have less : ∀ i j h h', D i = some h → D j = some h' → ¬ nb c i = 15 → cE c i j ≠ 0 → (if nb c j = 15 then 0 else ρ j + 1) < (if nb c i = 15 then 0 else ρ i + 1) := by
    intro i j h h' hi hj n15 he
    rw [if_neg n15]
    split
    · omega
    · rename_i w
      have := hρ i j (frD i h hi n15) (frD j h' hj w) he
      omega
  have hplg : ∀ k, goals c k → ∃ j, plc c k = some j := by
    intro k hk
    obtain ⟨t, ht⟩ := hjp k hk
    exact ⟨c.length - t.length - 1, by unfold plc; rw [ht]; rfl⟩
  -- from a label's place to what the label means
  have lbl : ∀ k p (σ : Sg), plc c k = some p → σ.pd = none → (∃ n R, fk (Lv c n) (c.drop p) bot σ = some R) → ∃ n R, Lv c n k σ = some R := by
    rintro k p σ hp hσ ⟨n, R, hr⟩
    have hpl := plc_lt hp
    have e13 : nb c p = 13 ∧ ar c p = k := by unfold nb ar; rw [plc_nb hp]; exact ⟨rfl, rfl⟩
    have ha := (plc_self hLU hpl e13.1).2
    rw [e13.2] at ha
    rw [drop_q0 hpl, plc_nb hp] at hr
    obtain ⟨st, pd, L, V, f⟩ := σ
    have hσ : pd = none := hσ
    subst hσ
    refine ⟨n + 1, R, ?_⟩
    rw [Lv_succ ha]
    exact (one_13 (Lv c n) (fk (Lv c n) (c.drop (p + 1)) bot) st L V f k).symm.trans hr
  intro F
  induction F using Nat.strongRecOn with
  | ind F ihF =>
  intro hF r
  induction r using Nat.strongRecOn with
  | ind r ihr =>
  intro i h hi hr σ hσ hσf
  have hil := (hSo i h hi).2.1
  have hfi : fit2 (nb c i) (ar c i) := hf _ (nb_mem hil)
  rw [drop_q0 hil]
  have eq0 : q0 c i = (nb c i, ar c i) := rfl
  rw [eq0]
  have step : ∀ j h' (σ' : Sg), D j = some h' → cE c i j ≠ 0 → ¬ nb c i = 15 → σ'.pd = none → σ'.f = nI F → ∃ n R, fk (Lv c n) (c.drop j) bot σ' = some R := by
    intro j h' σ' hj he n15 h1 h2
    exact ihr _ (by rw [← hr]; exact less i j h h' hi hj n15 he) j h' hj rfl σ' h1 h2
  by_cases hx : nb c i = 18
  · have h12 := h18 i hx
    have hil2 : i + 1 < c.length := by
      rcases Nat.lt_or_ge (i + 1) c.length with w | w
      · exact w
      · rw [nb_out w] at h12; exact absurd h12 (by decide)
    have hn : nxt c i = some (i + 2) := by unfold nxt; rw [hx, if_neg (by decide), if_pos rfl]
    obtain ⟨h', hD⟩ := next_D hOk hi hn
    obtain ⟨p, hp⟩ := hplg (ar c (i + 1)) ⟨nb c (i + 1), by rw [h12]; rfl, nb_mem hil2⟩
    have hg : gol c i = some p := by unfold gol; rw [if_pos hx]; exact hp
    obtain ⟨h2, hD2⟩ := goal_D hOk hi hg
    have n15 : ¬ nb c i = 15 := by rw [hx]; decide
    obtain ⟨st, pd, L, V, f⟩ := σ
    have hσ : pd = none := hσ
    subst hσ
    have hσf : f = nI F := hσf
    subst hσf
    have key : ∀ n, fk (Lv c n) ((nb c i, ar c i) :: c.drop (i + 1)) bot (st, none, L, V, nI F) = (if st 0 = ar c i then Lv c n (ar c (i + 1)) (s_pop st 1, none, L, V, nI F) else fk (Lv c n) (c.drop (i + 2)) bot (st, none, L, V, nI F)) := by
      intro n
      have eq1 : q0 c (i + 1) = (nb c (i + 1), ar c (i + 1)) := rfl
      rw [drop_q0 hil2, eq1, h12, hx]
      show one _ (18, ar c i) (one _ (12, ar c (i + 1)) (fk (Lv c n) (c.drop (i + 1 + 1)) bot)) _ = _
      rw [one_18, one_12p]
    by_cases cc : st 0 = ar c i
    · obtain ⟨n, R, hR⟩ := lbl _ p (s_pop st 1, none, L, V, nI F) hp rfl (step p h2 _ hD2 (cE_g hg) n15 rfl rfl)
      exact ⟨n, R, by rw [key, if_pos cc]; exact hR⟩
    · obtain ⟨n, R, hR⟩ := step (i + 2) h' (st, none, L, V, nI F) hD (cE_n hn) n15 rfl rfl
      exact ⟨n, R, by rw [key, if_neg cc]; exact hR⟩
  · rcases one_tri (k := ar c i) hfi.1 hx hσ with ⟨R, hR⟩ | ⟨he, σ', h1, h2, h3⟩ | ⟨hg, σ', h1, h2, h3⟩
    · exact ⟨0, R, hR _ _⟩
    · have hn : nxt c i = some (i + 1) := by unfold nxt; rw [he, if_neg (by decide), if_neg hx]
      obtain ⟨h', hD⟩ := next_D hOk hi hn
      rcases h2 with ⟨n15, e⟩ | ⟨n15, e0, e⟩
      · obtain ⟨n, R, hR⟩ := step (i + 1) h' σ' hD (cE_n hn) n15 h1 (e.trans hσf)
        exact ⟨n, R, by rw [← hR]; exact h3 _ _⟩
      · have hF0 : F ≠ 0 := fun w => e0 (by rw [hσf, w]; rfl)
        obtain ⟨F', rfl⟩ : ∃ F', F = F' + 1 := ⟨F - 1, by omega⟩
        obtain ⟨n, R, hR⟩ := ihF F' (by omega) (by omega) _ (i + 1) h' hD rfl σ' h1 (by rw [e, hσf]; exact nI_pred F')
        exact ⟨n, R, by rw [← hR]; exact h3 _ _⟩
    · obtain ⟨p, hp⟩ := hplg (ar c i) ⟨nb c i, hg, nb_mem hil⟩
      have hgo : gol c i = some p := by unfold gol; rw [if_neg hx, if_pos hg]; exact hp
      obtain ⟨h2', hD2⟩ := goal_D hOk hi hgo
      have n15 : ¬ nb c i = 15 := fun w => by rw [w] at hg; exact absurd hg (by decide)
      obtain ⟨n, R, hR⟩ := lbl _ p σ' hp h1 (step p h2' σ' hD2 (cE_g hgo) n15 h1 (h2.trans hσf))
      exact ⟨n, R, by rw [← hR]; exact h3 _ _⟩
