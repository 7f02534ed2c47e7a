/-! ... its lengths and ranks -/
theorem q0_at {p t : List II} {x : II} : q0 (p ++ x :: t) p.length = x := by
  unfold q0
  rw [List.getD_eq_getElem?_getD, List.getElem?_append_right (Nat.le_refl _), Nat.sub_self]
  rfl
theorem plc_nb {c : List II} {k : Int32} {j : Nat} (h : plc c k = some j) : q0 c j = (13, k) := by
  unfold plc at h
  cases ha : after c k with
  | none => rw [ha] at h; cases h
  | some t =>
    rw [ha] at h
    obtain ⟨p, hp, -⟩ := after_split ha
    have h : c.length - t.length - 1 = j := Option.some.inj h
    have : c.length = p.length + 1 + t.length := by rw [hp]; simp; omega
    have e : j = p.length := by omega
    rw [e, hp]
    exact q0_at
theorem plc_self {c : List II} (hLU : LU c) {j : Nat} (hj : j < c.length) (h : nb c j = 13) : plc c (ar c j) = some j ∧ after c (ar c j) = some (c.drop (j + 1)) := by
  have e : q0 c j = (13, ar c j) := by
    have : q0 c j = (nb c j, ar c j) := rfl
    rw [this, h]
  have hs : c = c.take j ++ (13, ar c j) :: c.drop (j + 1) := by
    rw [← e, ← drop_q0 hj]; exact (List.take_append_drop j c).symm
  have ha : after c (ar c j) = some (c.drop (j + 1)) := by
    have h2 := hLU
    rw [hs] at h2
    have := LU_after h2
    rw [← hs] at this
    exact this
  refine ⟨?_, ha⟩
  unfold plc
  rw [ha]
  show some (c.length - (c.drop (j + 1)).length - 1) = some j
  rw [List.length_drop]
  congr 1
  omega
theorem cE_n {c : List II} {i j : Nat} (h : nxt c i = some j) : cE c i j ≠ 0 := by unfold cE; rw [if_pos h]; omega
theorem cE_g {c : List II} {i j : Nat} (h : gol c i = some j) : cE c i j ≠ 0 := by unfold cE; rw [if_pos h]; omega
theorem kp_D {c : List II} {D : Nat → Option Nat} {i h : Nat} (hi : D i = some h) : kp c D i = true := by simp [kp, hi]
/-- whether a way comes in from right ahead -/
def ent (c : List II) (D : Nat → Option Nat) (i : Nat) : Prop := (∃ q h, D q = some h ∧ nxt c q = some i) ∨ (1 ≤ i ∧ nb c (i - 1) = 18 ∧ (D (i - 1)).isSome = true)
theorem rst_ck {c : List II} {D : Nat → Option Nat} {ρ : Nat → Nat} (hf : fitA c) (hLU : LU c) (hjp : ∀ k, goals c k → ∃ t, after c k = some t) (h18 : ∀ i, nb c i = 18 → nb c (i + 1) = 12) (hOk : OkH c D) (hSo : Sound c D) (hρ : ∀ i j, fre' c D i = true → fre' c D j = true → cE c i j ≠ 0 → ρ j < ρ i) :
    ∀ (d i : Nat), i + d = c.length → (∀ h B, D i = some h → (fre' c D i = true → ρ i < B) → fck (CD c D ρ) (rst c D d i) (some (h, B, false)) = some none) ∧ (1 ≤ i → ¬ ent c D i → fck (CD c D ρ) (rst c D d i) none = some none) := by
  intro d
  induction d using Nat.strongRecOn with
  | ind d ih =>
  intro i hid
  have frD : ∀ j h, D j = some h → ¬ nb c j = 15 → fre' c D j = true := fun j h h1 h2 => by simp [fre', h1, h2]
  have hW : ∀ j h, D j = some h → ρ j < (CD c D ρ).W := fun j h hj => by
    have := le_sum (ρ := ρ) (List.mem_range.mpr (hSo j h hj).2.1)
    show ρ j < ((List.range c.length).map ρ).sum + 1
    omega
  have hhl : ∀ k j h, plc c k = some j → D j = some h → (CD c D ρ).hh k = h ∧ (CD c D ρ).rho k = ρ j := fun k j h h1 h2 => by
    show hhD c D k = h ∧ rhoD c ρ k = ρ j
    unfold hhD rhoD
    rw [h1]
    refine ⟨?_, rfl⟩
    show (D j).getD 0 = h
    rw [h2]
    rfl
  constructor
  · intro h B hi hB
    have hil := (hSo i h hi).2.1
    obtain ⟨d', rfl⟩ : ∃ d', d = d' + 1 := ⟨d - 1, by omega⟩
    obtain ⟨ht, hs⟩ := hOk.2 i h hi
    have hfi : fit2 (nb c i) (ar c i) := hf _ (nb_mem hil)
    have h60 := (hSo i h hi).2.2
    rw [rst, if_pos (kp_D hi)]
    have eq0 : q0 c i = (nb c i, ar c i) := rfl
    rw [eq0, fck]
    -- the jump's goal
    have hgoal : ∀ k, plc c k = gol c i → t_goes (nb c i) = true ∨ nb c i = 18 → (∃ t, plc c k = some t) → tkn (nb c i) ≤ h ∧ (CD c D ρ).hh k = h - tkn (nb c i) ∧ (CD c D ρ).rho k < B := by
      rintro k hk hn ⟨j, hj⟩
      have hg : gol c i = some j := by rw [← hk]; exact hj
      obtain ⟨s1, s2, s3⟩ := hs (j, h - tkn (nb c i)) (mem_succs.mpr (.inr ⟨hg, rfl⟩))
      simp only at s1 s2 s3
      obtain ⟨e1, e2⟩ := hhl k j _ hj s3
      have n15 : ¬ nb c i = 15 := by
        rcases hn with hn | hn
        · intro w; rw [w] at hn; exact absurd hn (by decide)
        · rw [hn]; decide
      have hfr := frD i h hi n15
      have hfj : fre' c D j = true := frD j _ s3 (by
        have : nb c j = 13 := by unfold nb; rw [plc_nb hj]
        rw [this]; decide)
      have := hρ i j hfr hfj (cE_g hg)
      have := hB hfr
      exact ⟨ht, e1, by rw [e2]; omega⟩
    have goes : ∀ k, k = ar c i → t_goes (nb c i) = true → plc c k = gol c i := by
      rintro k rfl hg
      unfold gol
      rw [if_neg (fun w => by rw [w] at hg; exact absurd hg (by decide)), if_pos hg]
    -- falling into the next
    have fall : ∀ (hn : nxt c i = some (i + 1)) (B' : Nat), (fre' c D (i + 1) = true → ρ (i + 1) < B') → fck (CD c D ρ) (rst c D d' (i + 1)) (some (h - tkn (nb c i) + gvn (nb c i), B', false)) = some none := by
      intro hn B' hB'
      obtain ⟨s1, s2, s3⟩ := hs (i + 1, h - tkn (nb c i) + gvn (nb c i)) (mem_succs.mpr (.inl ⟨hn, rfl⟩))
      exact (ih d' (by omega) (i + 1) (by omega)).1 _ B' s3 hB'
    have fallB : ∀ (hn : nxt c i = some (i + 1)), ¬ nb c i = 15 → fck (CD c D ρ) (rst c D d' (i + 1)) (some (h - tkn (nb c i) + gvn (nb c i), B, false)) = some none := by
      intro hn n15
      refine fall hn B (fun hfr => ?_)
      have hfi' := frD i h hi n15
      have h1 := hρ i (i + 1) hfi' hfr (cE_n hn)
      have h2 := hB hfi'
      omega
    have dead : t_ends (nb c i) = true → fck (CD c D ρ) (rst c D d' (i + 1)) none = some none := by
      intro he
      refine (ih d' (by omega) (i + 1) (by omega)).2 (by omega) ?_
      rintro (⟨q, hq, hq1, hq2⟩ | ⟨-, w1, w2⟩)
      · by_cases e : q = i
        · subst e
          unfold nxt at hq2
          rw [if_pos he] at hq2
          cases hq2
        · have hq3 : nb c q = 18 ∧ q + 1 = i := by
            unfold nxt at hq2
            by_cases e1 : t_ends (nb c q) = true
            · rw [if_pos e1] at hq2; cases hq2
            rw [if_neg e1] at hq2
            by_cases e2 : nb c q = 18
            · rw [if_pos e2] at hq2
              have := Option.some.inj hq2
              exact ⟨e2, by omega⟩
            · rw [if_neg e2] at hq2
              have := Option.some.inj hq2
              omega
          have := h18 q hq3.1
          rw [hq3.2] at this
          rw [this] at he
          exact absurd he (by decide)
      · have : nb c i = 18 := by simpa using w1
        rw [this] at he
        exact absurd he (by decide)
    have nx1 : t_ends (nb c i) = false → ¬ nb c i = 18 → nxt c i = some (i + 1) := by
      intro e1 e2
      unfold nxt
      rw [e1, if_neg (by decide), if_neg e2]
    by_cases hspec : nb c i = 10 ∨ nb c i = 11 ∨ nb c i = 12 ∨ nb c i = 13 ∨ nb c i = 15 ∨ nb c i = 16 ∨ nb c i = 17 ∨ nb c i = 18
    · have hplg : ∀ k, goals c k → ∃ j, plc c k = some j := by
        intro k hk
        obtain ⟨t, ht⟩ := hjp k hk
        exact ⟨c.length - t.length - 1, by unfold plc; rw [ht]; rfl⟩
      have hpl : t_goes (nb c i) = true → ∃ j, plc c (ar c i) = some j := fun hg => hplg _ ⟨nb c i, hg, nb_mem hil⟩
      rcases hspec with hx | hx | hx | hx | hx | hx | hx | hx
      · have hg : t_goes (nb c i) = true := by rw [hx]; rfl
        obtain ⟨g1, g2, g3⟩ := hgoal _ (goes _ rfl hg) (.inl hg) (hpl hg)
        have hd := dead (by rw [hx]; rfl)
        have t0 : tkn 10 = 0 := by decide
        rw [hx, t0] at g2
        rw [hx, ck_10, if_pos ⟨by omega, g3⟩]
        exact hd
      · have hg : t_goes (nb c i) = true := by rw [hx]; rfl
        obtain ⟨g1, g2, g3⟩ := hgoal _ (goes _ rfl hg) (.inl hg) (hpl hg)
        have hfl := fallB (nx1 (by rw [hx]; rfl) (by rw [hx]; decide)) (by rw [hx]; decide)
        have t0 : tkn 11 = 1 := by decide
        have t1 : gvn 11 = 0 := by decide
        rw [hx, t0] at g1 g2
        rw [hx, t0, t1, Nat.add_zero] at hfl
        rw [hx, ck_11, if_pos ⟨by omega, g3⟩]
        exact hfl
      · have hg : t_goes (nb c i) = true := by rw [hx]; rfl
        obtain ⟨g1, g2, g3⟩ := hgoal _ (goes _ rfl hg) (.inl hg) (hpl hg)
        have hfl := fallB (nx1 (by rw [hx]; rfl) (by rw [hx]; decide)) (by rw [hx]; decide)
        have t0 : tkn 12 = 1 := by decide
        have t1 : gvn 12 = 0 := by decide
        rw [hx, t0] at g1 g2
        rw [hx, t0, t1, Nat.add_zero] at hfl
        rw [hx, ck_12, if_pos ⟨by omega, g3⟩]
        exact hfl
      · have hps := (plc_self hLU hil hx).1
        obtain ⟨e1, e2⟩ := hhl _ i h hps hi
        have hfr := frD i h hi (by rw [hx]; decide)
        have hn := nx1 (by rw [hx]; rfl) (by rw [hx]; decide)
        have hfl := fall hn (ρ i) (fun hfr2 => hρ i (i + 1) hfr hfr2 (cE_n hn))
        have t0 : tkn 13 = 0 := by decide
        have t1 : gvn 13 = 0 := by decide
        rw [hx, t0, t1, Nat.add_zero, Nat.sub_zero] at hfl
        rw [hx, ck_13, if_pos ⟨e1, by rw [e2]; exact hB hfr⟩, e2]
        exact hfl
      · have hn := nx1 (by rw [hx]; rfl) (by rw [hx]; decide)
        have hfl := fall hn (CD c D ρ).W (fun hfr2 => by
          cases hv : D (i + 1) with
          | none => simp [fre', hv] at hfr2
          | some v => exact hW (i + 1) v hv)
        have t0 : tkn 15 = 0 := by decide
        have t1 : gvn 15 = 0 := by decide
        rw [hx, t0, t1, Nat.add_zero, Nat.sub_zero] at hfl
        rw [hx, ck_15]
        exact hfl
      · have hd := dead (by rw [hx]; rfl)
        have t0 : tkn 16 = 1 := by decide
        rw [hx, t0] at ht
        rw [hx, ck_16, if_pos ht]
        exact hd
      · have hd := dead (by rw [hx]; rfl)
        rw [hx, ck_17]
        exact hd
      · have h12 := h18 i hx
        have hil2 : i + 1 < c.length := by
          rcases Nat.lt_or_ge (i + 1) c.length with w | w
          · exact w
          · rw [nb_out w] at h12; exact absurd h12 (by decide)
        obtain ⟨d2, rfl⟩ : ∃ d2, d' = d2 + 1 := ⟨d' - 1, by omega⟩
        have hk1 : kp c D (i + 1) = true := by
          unfold kp
          rw [Nat.add_sub_cancel, hx, hi]
          simp
        have hgl : plc c (ar c (i + 1)) = gol c i := by unfold gol; rw [if_pos hx]
        obtain ⟨g1, g2, g3⟩ := hgoal (ar c (i + 1)) hgl (.inr hx) (hplg _ ⟨nb c (i + 1), by rw [h12]; rfl, nb_mem hil2⟩)
        have hn : nxt c i = some (i + 2) := by unfold nxt; rw [hx, if_neg (by decide), if_pos rfl]
        obtain ⟨s1, s2, s3⟩ := hs (i + 2, h - tkn (nb c i) + gvn (nb c i)) (mem_succs.mpr (.inl ⟨hn, rfl⟩))
        have t0 : tkn 18 = 1 := by decide
        have t1 : gvn 18 = 1 := by decide
        rw [hx, t0] at g1 g2
        rw [hx, t0, t1] at s3
        simp only at s3
        rw [show h - 1 + 1 = h by omega] at s3
        have hfr := frD i h hi (by rw [hx]; decide)
        have hfl := (ih d2 (by omega) (i + 2) (by omega)).1 h B s3 (fun hfr2 => by
          have h1 := hρ i (i + 2) hfr hfr2 (cE_n hn)
          have h2 := hB hfr
          omega)
        rw [hx, ck_18, if_pos g1]
        show fck (CD c D ρ) (rst c D (d2 + 1) (i + 1)) (some (h, B, true)) = some none
        rw [rst, if_pos hk1]
        have eq1 : q0 c (i + 1) = (nb c (i + 1), ar c (i + 1)) := rfl
        rw [eq1, h12, fck]
        have e2 : ck (CD c D ρ) (some (h, B, true)) (12, ar c (i + 1)) = (if (12 : Int32) = 12 ∧ (CD c D ρ).hh (ar c (i + 1)) + 1 = h ∧ (CD c D ρ).rho (ar c (i + 1)) < B then some (some (h, B, false)) else none) := rfl
        rw [e2, if_pos ⟨rfl, by omega, g3⟩]
        exact hfl
    · have he : t_ends (nb c i) = false := by
        cases hx : t_ends (nb c i) with
        | false => rfl
        | true =>
          have : nb c i = 10 ∨ nb c i = 16 ∨ nb c i = 17 := by simpa [t_ends] using hx
          exfalso
          apply hspec
          rcases this with w | w | w <;> simp [w]
      have hn := nx1 he (fun w => hspec (by simp [w]))
      have h60' := (hs (i + 1, h - tkn (nb c i) + gvn (nb c i)) (mem_succs.mpr (.inl ⟨hn, rfl⟩))).2.1
      rw [ck_fall hfi.1 hspec ht h60']
      exact fallB hn (fun w => hspec (by simp [w]))
  · intro h1 hne
    cases d with
    | zero => rfl
    | succ d =>
      have hil : i < c.length := by omega
      rw [rst]
      by_cases hk : kp c D i = true
      · rw [if_pos hk]
        have hi : ∃ h, D i = some h := by
          cases hv : D i with
          | some h => exact ⟨h, rfl⟩
          | none =>
            exfalso
            apply hne
            right
            simpa [kp, hv] using hk
        obtain ⟨h, hi⟩ := hi
        obtain ⟨⟨k, hr⟩, -, h60⟩ := hSo i h hi
        have h13 : nb c i = 13 := by
          cases k with
          | zero => have := hr.1; omega
          | succ k =>
            obtain ⟨q, hq, hr2, hm⟩ := hr
            have hDq := rch_ok hOk k q hq hr2
            rcases mem_succs.mp hm with ⟨e1, -⟩ | ⟨e1, -⟩
            · exact absurd (.inl ⟨q, hq, hDq, e1⟩) hne
            · simp only at e1
              unfold gol at e1
              split at e1
              · unfold nb; rw [plc_nb e1]
              split at e1
              · unfold nb; rw [plc_nb e1]
              · cases e1
        have hps := (plc_self hLU hil h13).1
        obtain ⟨e1, e2⟩ := hhl _ i h hps hi
        have hfr := frD i h hi (by rw [h13]; decide)
        have hn : nxt c i = some (i + 1) := by unfold nxt; rw [h13, if_neg (by decide), if_neg (by decide)]
        obtain ⟨s1, s2, s3⟩ := (hOk.2 i h hi).2 (i + 1, h - tkn (nb c i) + gvn (nb c i)) (mem_succs.mpr (.inl ⟨hn, rfl⟩))
        have t0 : tkn 13 = 0 := by decide
        have t1 : gvn 13 = 0 := by decide
        rw [h13, t0, t1, Nat.add_zero, Nat.sub_zero] at s3
        have hfl := (ih d (by omega) (i + 1) (by omega)).1 h (ρ i) s3 (fun hfr2 => hρ i (i + 1) hfr hfr2 (cE_n hn))
        have eq0 : q0 c i = (nb c i, ar c i) := rfl
        rw [eq0, h13, fck, ck_13n, e1, e2]
        exact hfl
      · rw [if_neg hk]
        refine (ih d (by omega) (i + 1) (by omega)).2 (by omega) ?_
        have hDi : D i = none := by
          cases hv : D i with
          | none => rfl
          | some h => exact absurd (kp_D hv) hk
        rintro (⟨q, hq, hq1, hq2⟩ | ⟨-, w1, w2⟩)
        · unfold nxt at hq2
          by_cases e1 : t_ends (nb c q) = true
          · rw [if_pos e1] at hq2; cases hq2
          rw [if_neg e1] at hq2
          by_cases e2 : nb c q = 18
          · rw [if_pos e2] at hq2
            have := Option.some.inj hq2
            have e : i - 1 = q := by omega
            apply hk
            unfold kp
            rw [e, e2, hq1]
            simp
            omega
          · rw [if_neg e2] at hq2
            have := Option.some.inj hq2
            have e : q = i := by omega
            subst e
            rw [hDi] at hq1
            cases hq1
        · rw [Nat.add_sub_cancel, hDi] at w2
          cases w2
