/-! PLACES, USES, the farthest label; a pass leaves a good code good -/
theorem nAt_set {xs : List Int32} {i v k : Int32} (hk : ¬ k < 0) (hk2 : k.toNatClampNeg < xs.length) (hi : ¬ i < 0) : nAt (nSet xs i v) k = if i = k then v else nAt xs k := by
  obtain ⟨a, ha, rfl⟩ := nI_of hk
  obtain ⟨b, hb, rfl⟩ := nI_of hi
  rw [nI_clamp ha] at hk2
  rw [nAt_nat ha, nAt_nat ha, nSet, if_neg hi, nI_clamp hb]
  by_cases h : b = a
  · subst h
    rw [if_pos rfl, List.getD_eq_getElem?_getD, List.getElem?_set_self hk2]
    rfl
  · rw [if_neg (fun w => h ((nI_eq hb ha).mp w)), List.getD_eq_getElem?_getD, List.getElem?_set_ne h, List.getD_eq_getElem?_getD]
theorem nAt_set_neg {xs : List Int32} {i v : Int32} (hi : i < 0) : nSet xs i v = xs := by
  unfold nSet; rw [if_pos hi]
theorem lt100 {k : Int32} (h : ¬ k < 0) (h2 : k < 100) : k.toNatClampNeg < 100 := by
  obtain ⟨a, ha, rfl⟩ := nI_of h
  rw [nI_clamp ha]
  exact (nI_ltI ha (by omega)).mp h2
theorem p_places_out {c : List II} (hc : c.length < 2 ^ 28) (hf : fitA c) {k : Int32} (hk : ¬ k < 0) (hk2 : k < 100) : ∀ (d i : Nat) (pl : List Int32), i + d = c.length → pl.length = 100 → (13, k) ∉ c.drop i → nAt (p_places (up c).1 (up c).2 d i pl) k = nAt pl k := by
  intro d
  induction d with
  | zero => intro i pl _ _ _; rfl
  | succ d ih =>
    intro i pl hi hl hn
    obtain ⟨e1, e2⟩ := up_at (c := c) (i := i) (by omega)
    rw [drop_q0 (by omega : i < c.length)] at hn
    have hx : q0 c i ∈ c := by
      have : q0 c i ∈ c.drop i := by rw [drop_q0 (by omega : i < c.length)]; exact List.mem_cons_self ..
      exact List.mem_of_mem_drop this
    have hfx := hf _ hx
    rw [p_places, e1, e2]
    have hn1 : ¬ q0 c i = (13, k) := fun w => hn (by rw [w]; exact List.mem_cons_self ..)
    have hn2 : (13, k) ∉ c.drop (i + 1) := fun w => hn (List.mem_cons_of_mem _ w)
    by_cases h13 : (q0 c i).1 = 13
    · rw [if_pos h13, ih (i + 1) _ (by omega) (by rw [nSet_len]; exact hl) hn2, nAt_set hk (by rw [hl]; exact lt100 hk hk2) (hfx.2.2.2.2 (.inr h13)).1, if_neg (fun w => hn1 (Prod.ext h13 w))]
    · rw [if_neg h13, ih (i + 1) _ (by omega) hl hn2]
theorem p_places_in {c : List II} (hc : c.length < 2 ^ 28) (hf : fitA c) {k : Int32} (hk : ¬ k < 0) (hk2 : k < 100) : ∀ (d i : Nat) (pl p t : List _), i + d = c.length → pl.length = 100 → c.drop i = p ++ (13, k) :: t → (13, k) ∉ t → nAt (p_places (up c).1 (up c).2 d i pl) k = nI (i + p.length) := by
  intro d
  induction d with
  | zero =>
    intro i pl p t hi _ h
    rw [List.drop_eq_nil_of_le (by omega)] at h
    cases p <;> cases h
  | succ d ih =>
    intro i pl p t hi hl h hn
    obtain ⟨e1, e2⟩ := up_at (c := c) (i := i) (by omega)
    rw [drop_q0 (by omega : i < c.length)] at h
    rw [p_places, e1, e2]
    cases p with
    | nil =>
      simp only [List.nil_append, List.cons.injEq] at h
      rw [h.1]
      simp only [if_true]
      rw [p_places_out hc hf hk hk2 d (i + 1) _ (by omega) (by rw [nSet_len]; exact hl) (by rw [h.2]; exact hn), nAt_set hk (by rw [hl]; exact lt100 hk hk2) hk, if_pos rfl]
      rfl
    | cons a p =>
      simp only [List.cons_append, List.cons.injEq] at h
      have e : i + (a :: p).length = i + 1 + p.length := by rw [List.length_cons]; omega
      rw [e]
      split
      · exact ih (i + 1) _ p t (by omega) (by rw [nSet_len]; exact hl) h.2 hn
      · exact ih (i + 1) _ p t (by omega) hl h.2 hn
theorem p_pls_at {c p t : List II} {k : Int32} (hc : c.length < 2 ^ 28) (hf : fitA c) (hLU : LU c) (h : c = p ++ (13, k) :: t) : nAt (p_pls (up c)) k = nI p.length := by
  have hk := (hf (13, k) (by rw [h]; simp)).2.2.2.2 (.inr rfl)
  have hn : (13, k) ∉ t := by
    intro w
    obtain ⟨a, b, rfl⟩ := List.append_of_mem w
    have h2 : c = (p ++ (13, k) :: a) ++ (13, k) :: b := by rw [h]; simp
    rw [h2] at hLU
    exact LU_first hLU (13, k) (by simp) ⟨rfl, rfl⟩
  have hl : (up c).1.length = c.length := by simp [up]
  unfold p_pls
  rw [hl, p_places_in hc hf hk.1 hk.2 c.length 0 (List.replicate 100 (-1)) p t (by omega) (by simp) h hn]
  simp
theorem p_uses_len (pl fs ga : List Int32) : ∀ (d i : Nat) (us : List Int32), (p_uses pl fs ga d i us).length = us.length := by
  intro d
  induction d with
  | zero => intro i us; rfl
  | succ d ih =>
    intro i us
    rw [p_uses]
    split
    · rw [ih, nSet_len]
    · rw [ih]
theorem p_uses_at {pl : List Int32} {c : List II} (hc : c.length < 2 ^ 28) {fr : Int32 → Int32} (hfr : fr = p_far pl (up c).1 (up c).2 100) (hr : ∀ i ∈ c, t_goes i.1 = true → ¬ fr i.2 < 0 ∧ fr i.2 < 100) {k : Int32} (hk : ¬ k < 0) (hk2 : k < 100) :
    ∀ (d i m : Nat) (us : List Int32), i + d = c.length → us.length = 100 → m + d < 2 ^ 30 → nAt us k = nI m → ∃ m', nAt (p_uses pl (up c).1 (up c).2 d i us) k = nI m' ∧ m ≤ m' ∧ m' ≤ m + d ∧ ((∃ j ∈ c.drop i, t_goes j.1 = true ∧ fr j.2 = k) → m < m') := by
  intro d
  induction d with
  | zero =>
    intro i m us hi _ _ hu
    refine ⟨m, hu, Nat.le_refl _, by omega, ?_⟩
    rw [List.drop_eq_nil_of_le (by omega)]
    rintro ⟨j, hj, -⟩
    cases hj
  | succ d ih =>
    intro i m us hi hl hm hu
    obtain ⟨e1, e2⟩ := up_at (c := c) (i := i) (by omega)
    have hdr := drop_q0 (by omega : i < c.length)
    have hx : q0 c i ∈ c := by
      have : q0 c i ∈ c.drop i := by rw [hdr]; exact List.mem_cons_self ..
      exact List.mem_of_mem_drop this
    rw [p_uses, e1, e2, ← hfr, hdr]
    by_cases hg : t_goes (q0 c i).1 = true
    · rw [if_pos hg]
      have hin := hr _ hx hg
      by_cases hek : fr (q0 c i).2 = k
      · have hu2 : nAt (nSet us (fr (q0 c i).2) (nAt us (fr (q0 c i).2) + 1)) k = nI (m + 1) := by
          rw [nAt_set hk (by rw [hl]; exact lt100 hk hk2) hin.1, if_pos hek, hek, hu, nI_1]
        obtain ⟨m', a1, a2, a3, -⟩ := ih (i + 1) (m + 1) _ (by omega) (by rw [nSet_len]; exact hl) (by omega) hu2
        exact ⟨m', a1, by omega, by omega, fun _ => by omega⟩
      · have hu2 : nAt (nSet us (fr (q0 c i).2) (nAt us (fr (q0 c i).2) + 1)) k = nI m := by
          rw [nAt_set hk (by rw [hl]; exact lt100 hk hk2) hin.1, if_neg hek, hu]
        obtain ⟨m', a1, a2, a3, a4⟩ := ih (i + 1) m _ (by omega) (by rw [nSet_len]; exact hl) (by omega) hu2
        refine ⟨m', a1, a2, by omega, ?_⟩
        rintro ⟨j, hj, hj1, hj2⟩
        rcases List.mem_cons.mp hj with rfl | hj
        · exact absurd hj2 hek
        · exact a4 ⟨j, hj, hj1, hj2⟩
    · rw [if_neg hg]
      obtain ⟨m', a1, a2, a3, a4⟩ := ih (i + 1) m _ (by omega) hl (by omega) hu
      refine ⟨m', a1, a2, by omega, ?_⟩
      rintro ⟨j, hj, hj1, hj2⟩
      rcases List.mem_cons.mp hj with rfl | hj
      · exact absurd hj1 hg
      · exact a4 ⟨j, hj, hj1, hj2⟩
abbrev Good (C : CP) (c : List II) : Prop :=
  (fitA c) ∧
  (LU c) ∧
  (∀ k, goals c k → ∃ t, after c k = some t) ∧
  (fck C c (some (0, C.W, false)) = some none)
theorem Good.fit {C : CP} {c : List II} (w : Good C c) : fitA c := w.1
theorem Good.lu {C : CP} {c : List II} (w : Good C c) : LU c := w.2.1
theorem Good.jp {C : CP} {c : List II} (w : Good C c) : ∀ k, goals c k → ∃ t, after c k = some t := w.2.2.1
theorem Good.ok {C : CP} {c : List II} (w : Good C c) : fck C c (some (0, C.W, false)) = some none := w.2.2.2
theorem fck_at {C : CP} {p t : List II} {i : II} {s e : CK} (h : fck C (p ++ i :: t) s = some e) : ∃ u v, fck C p s = some u ∧ ck C u i = some v ∧ fck C t v = some e := by
  rw [fck_app] at h
  cases h1 : fck C p s with
  | none => rw [h1] at h; cases h
  | some u =>
    rw [h1] at h
    have h : fck C (i :: t) u = some e := h
    rw [fck] at h
    cases h2 : ck C u i with
    | none => rw [h2] at h; cases h
    | some v => rw [h2] at h; exact ⟨u, v, rfl, h2, h⟩
theorem ck_lab {C : CP} {u v : CK} {k : Int32} (h : ck C u (13, k) = some v) : v = some (C.hh k, C.rho k, false) := by
  rcases u with _ | ⟨d, B, q⟩
  · rw [ck_13n] at h; cases h; rfl
  · cases q with
    | true => rw [ck_p (by decide)] at h; cases h
    | false =>
      rw [ck_13] at h
      split at h
      · rename_i w; cases h; rw [w.1]
      · cases h
theorem p_far_ok {C : CP} {c : List II} (hc : c.length < 2 ^ 28) (g : Good C c) : ∀ (d : Nat) (k : Int32), (∃ t, after c k = some t) →
    (∃ t, after c (p_far (p_pls (up c)) (up c).1 (up c).2 d k) = some t) ∧ C.hh (p_far (p_pls (up c)) (up c).1 (up c).2 d k) = C.hh k ∧ C.rho (p_far (p_pls (up c)) (up c).1 (up c).2 d k) ≤ C.rho k ∧
    ∀ n (σ : Sg), σ.pd = none → Ole (Lv c n k σ) (Lv c n (p_far (p_pls (up c)) (up c).1 (up c).2 d k) σ) := by
  intro d
  induction d with
  | zero => intro k hk; exact ⟨hk, rfl, Nat.le_refl _, fun n σ _ => Ole.refl _⟩
  | succ d ih =>
    intro k hk
    obtain ⟨t, ht⟩ := hk
    obtain ⟨p, hp, -⟩ := after_split ht
    have hlen : p.length + 1 + t.length = c.length := by rw [hp]; simp; omega
    have e0 : nAt (p_pls (up c)) k + 1 = nI (p.length + 1) := by rw [p_pls_at hc g.fit g.lu hp, nI_1]
    obtain ⟨e1, e2⟩ := up_at (c := c) (i := p.length + 1) (by omega)
    rw [p_far, e0, e1, e2]
    by_cases hcd : (q0 c (p.length + 1)).1 = 13 ∨ (q0 c (p.length + 1)).1 = 10
    · rw [if_pos hcd]
      have hlt : p.length + 1 < c.length := by
        rcases Nat.lt_or_ge (p.length + 1) c.length with w | w
        · exact w
        · have : q0 c (p.length + 1) = (-1, -1) := by
            unfold q0
            rw [List.getD_eq_getElem?_getD, List.getElem?_eq_none w]; rfl
          rw [this] at hcd
          exact absurd hcd (by decide)
      have ht2 : t = q0 c (p.length + 1) :: c.drop (p.length + 2) := by
        rw [← drop_q0 hlt, hp]
        simp
      generalize hx : q0 c (p.length + 1) = x at *
      obtain ⟨a, m⟩ := x
      generalize c.drop (p.length + 2) = t' at *
      simp only at hcd ⊢
      have hck := g.ok
      rw [hp] at hck
      obtain ⟨u, v, -, h2, h3⟩ := fck_at hck
      have hv := ck_lab h2
      subst hv
      rw [ht2, fck] at h3
      have hpm : ∃ t, after c m = some t := by
        rcases hcd with rfl | rfl
        · have : c = (p ++ [(13, k)]) ++ (13, m) :: t' := by rw [hp, ht2]; simp
          have hl := g.lu
          rw [this] at hl ⊢
          exact ⟨_, LU_after hl⟩
        · exact g.jp m ⟨10, rfl, by rw [hp, ht2]; simp⟩
      have hm : C.hh m = C.hh k ∧ C.rho m < C.rho k := by
        rcases hcd with rfl | rfl
        · rw [ck_13] at h3
          split at h3
          · assumption
          · cases h3
        · rw [ck_10] at h3
          split at h3
          · assumption
          · cases h3
      obtain ⟨b1, b2, b3, b4⟩ := ih m hpm
      refine ⟨b1, by rw [b2]; exact hm.1, by omega, fun n σ hσ => Ole.trans ?_ (b4 n σ hσ)⟩
      cases n with
      | zero => exact Ole.none _
      | succ n =>
        rw [Lv_succ ht, ht2]
        obtain ⟨st, pd, L, V, f⟩ := σ
        cases hσ
        rcases hcd with rfl | rfl
        · have : c = (p ++ [(13, k)]) ++ (13, m) :: t' := by rw [hp, ht2]; simp
          have hl := g.lu
          have ha : after c m = some t' := by rw [this] at hl ⊢; exact LU_after hl
          rw [Lv_succ ha]
          exact Ole.of_eq (one_13 ..)
        · show Ole (one _ (10, m) _ _) _
          rw [one_10]
          exact Lv_mono c n m _
    · rw [if_neg hcd]
      exact ⟨⟨t, ht⟩, rfl, Nat.le_refl _, fun n σ _ => Ole.refl _⟩
theorem pass_good {C : CP} {c : List II} (hc : c.length < 60000) (g : Good C c) : ∃ c', p_pass (up c) = up c' ∧ Good C c' ∧ c'.length ≤ c.length ∧ ∀ n (σ : Sg), σ.pd = none → Ole (fk (Lv c n) c bot σ) (fk (Lv c' n) c' bot σ) := by
  have hc' : c.length < 2 ^ 28 := by omega
  have hl : (up c).1.length = c.length := by simp [up]
  have far := p_far_ok hc' g 100
  generalize hpl : p_pls (up c) = pl at far
  generalize hfr : p_far pl (up c).1 (up c).2 100 = fr at far
  have hin : ∀ k, (∃ t, after c k = some t) → ¬ k < 0 ∧ k < 100 := by
    rintro k ⟨t, ht⟩
    obtain ⟨p, hp, -⟩ := after_split ht
    exact (g.fit (13, k) (by rw [hp]; simp)).2.2.2.2 (.inr rfl)
  have hgo : ∀ i ∈ c, t_goes i.1 = true → ∃ t, after c i.2 = some t := fun i hi w => g.jp i.2 ⟨i.1, w, hi⟩
  have hr : ∀ i ∈ c, t_goes i.1 = true → ¬ fr i.2 < 0 ∧ fr i.2 < 100 := fun i hi w => hin _ (far i.2 (hgo i hi w)).1
  generalize hus : p_uss (up c) = us
  have hu : ∀ n k, (n, k) ∈ c → t_goes n = true → usB us (fr k) = true := by
    intro n k hk hn
    have h1 := hr _ hk hn
    obtain ⟨m', a1, -, a3, a4⟩ := p_uses_at (pl := pl) hc' hfr.symm hr h1.1 h1.2 c.length 0 0 (List.replicate 100 0) (by omega) (by simp) (by omega) (by
      obtain ⟨a, ha, e⟩ := nI_of h1.1
      have := lt100 h1.1 h1.2
      rw [e] at this ⊢
      rw [nI_clamp ha] at this
      rw [nAt_nat ha, List.getD_eq_getElem?_getD, List.getElem?_replicate, if_pos this]
      rfl)
    have a4 := a4 ⟨(n, k), by simpa using hk, hn, rfl⟩
    have e : us = p_uses pl (up c).1 (up c).2 c.length 0 (List.replicate 100 0) := by rw [← hus, p_uss, hpl, hl]
    rw [← e] at a1
    simp only [usB, a1, decide_eq_true_eq]
    exact nI_ne0 (by omega) (by omega)
  refine ⟨q_code (usB us) fr c, ?_, ?_, ?_, ?_⟩
  · have := p_rew_up (pl := pl) (us := us) (c := c) (by omega) c.length 0 false [] (by omega) (by simp; omega)
    rw [hfr, List.drop_zero] at this
    unfold p_pass
    rw [hpl, hus, hl]
    exact this
  · obtain ⟨a1, a2, a3⟩ := q_rew_all (us := usB us) (fr := fr) c (false, []) g.fit hr (by intro j hj; cases hj)
    refine ⟨fun j hj => a1 j (List.mem_reverse.mp hj), q_code_LU (fitA_8 g.fit) g.lu, ?_, ?_⟩
    · rintro k ⟨m, hm, hk⟩
      rcases a3 k ⟨m, hm, List.mem_reverse.mp hk⟩ with ⟨m', hm', w⟩ | ⟨k', ⟨m', hm', hk'⟩, rfl⟩
      · cases w
      · obtain ⟨t, ht⟩ := (far k' (g.jp k' ⟨m', hm', hk'⟩)).1
        obtain ⟨p, hp, -⟩ := after_split ht
        obtain ⟨B, Y, dd, e1, e2⟩ := q_code_at (us := usB us) (fr := fr) (p := p) (t := t) (hu m' k' hk' hm')
        rw [← hp] at e2
        have hLU' : LU (q_code (usB us) fr c) := q_code_LU (fitA_8 g.fit) g.lu
        rw [e2] at hLU' ⊢
        exact ⟨_, LU_after hLU'⟩
    · obtain ⟨e', b1, b2⟩ := q_rew_ck (us := usB us) (fr := fr) (C := C) (s0 := some (0, C.W, false)) ⟨0, C.W, rfl⟩ c false [] (some (0, C.W, false)) (some (0, C.W, false)) none (by rw [List.append_nil]; exact g.fit) (fun i hi w => ⟨hr i hi w, (far i.2 (hgo i hi w)).2.1, (far i.2 (hgo i hi w)).2.2.1⟩) rfl (cle.refl _) ⟨fun w => (by cases w), fun w => (by cases w)⟩ g.ok
      have he : e' = none := by
        rcases b2 with w | ⟨_, _, _, _, w, -⟩
        · exact w
        · cases w
      subst he
      rw [rck_fck] at b1
      exact b1
  · unfold q_code
    rw [List.length_reverse]
    have := (q_rew_all (us := usB us) (fr := fr) c (false, []) g.fit hr (by intro j hj; cases hj)).2.1
    simpa using this
  · intro n σ hσ
    refine (q_code_sem (us := usB us) (fr := fr) (fitA_8 g.fit) g.lu hu (fun n k σ hσ => ?_) n).2 σ hσ
    cases ha : after c k with
    | none =>
      cases n with
      | zero => exact Ole.none _
      | succ n => simp only [Lv, ha]; exact Ole.none _
    | some t => exact (far k ⟨t, ha⟩).2.2.2 n σ hσ
