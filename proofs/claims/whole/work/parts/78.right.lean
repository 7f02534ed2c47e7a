/-! THE JUDGE is right -/
abbrev Sound (c : List II) (D : Nat → Option Nat) : Prop := ∀ i h, D i = some h → (∃ k, Rch c k i h) ∧ i < c.length ∧ h ≤ 60
abbrev Right (c : List II) : Prop := 0 < c.length ∧ fitA c ∧ LU c ∧ (∀ k, goals c k → ∃ t, after c k = some t) ∧ (∀ i, nb c i = 18 → nb c (i + 1) = 12) ∧ ∃ D, OkH c D ∧ Sound c D ∧ Acy c D
theorem ok_unique {c : List II} {D D' : Nat → Option Nat} (h1 : OkH c D) (s1 : Sound c D) (h2 : OkH c D') (s2 : Sound c D') : D = D' := by
  funext i
  cases hv : D i with
  | none =>
    cases hv' : D' i with
    | none => rfl
    | some h =>
      obtain ⟨⟨k, hk⟩, -⟩ := s2 i h hv'
      rw [rch_ok h1 k i h hk] at hv
      cases hv
  | some h =>
    obtain ⟨⟨k, hk⟩, -⟩ := s1 i h hv
    rw [rch_ok h2 k i h hk]
theorem pls_plc {c : List II} (hc : c.length < 2 ^ 28) (hf : fitA c) (hLU : LU c) {k : Int32} (h1 : ¬ k < 0) (h2 : k < 100) : nAt (p_pls (up c)) k = oI (plc c k) := by
  unfold plc
  cases ha : after c k with
  | some t =>
    obtain ⟨p, hp, -⟩ := after_split ha
    rw [p_pls_at hc hf hLU hp]
    show nI p.length = nI (c.length - t.length - 1)
    have : c.length = p.length + 1 + t.length := by rw [hp]; simp; omega
    congr 1
    omega
  | none =>
    have hn : (13, k) ∉ c := by
      intro w
      obtain ⟨a, b, e⟩ := List.append_of_mem w
      rw [e] at hLU
      have := LU_after hLU
      rw [← e, ha] at this
      cases this
    unfold p_pls
    rw [up_len, p_places_out hc hf h1 h2 c.length 0 _ (by omega) (by simp) (by simpa using hn)]
    obtain ⟨x, hx, rfl⟩ := nI_of h1
    have := (nI_ltI hx (by omega) (b := 100)).mp h2
    exact nAt_rep this (by omega)
theorem there_iff {c : List II} {pl : List Int32} (hc : c.length < 2 ^ 27) : ∀ (d i : Nat), i + d = c.length → (j_there (up c).1 (up c).2 pl d i = true ↔ ∀ q, i ≤ q → q < c.length → (t_goes (nb c q) = true → ¬ nAt pl (ar c q) = -1) ∧ (nb c q = 18 → nb c (q + 1) = 12)) := by
  intro d
  induction d with
  | zero => intro i hi; exact ⟨fun _ q h1 h2 => by omega, fun _ => rfl⟩
  | succ d ih =>
    intro i hi
    obtain ⟨e1, e2⟩ := up_at (c := c) (i := i) (by omega)
    obtain ⟨e3, -⟩ := up_at1 (c := c) (i := i) (by omega)
    have e1 : nAt (up c).1 (nI i) = nb c i := e1
    have e2 : nAt (up c).2 (nI i) = ar c i := e2
    have e3 : nAt (up c).1 (nI i + 1) = nb c (i + 1) := e3
    rw [j_there, Bool.and_eq_true, ih (i + 1) (by omega), j_there1, e1, e2, e3, decide_eq_true_eq]
    constructor
    · rintro ⟨⟨a1, a2⟩, b⟩ q h1 h2
      by_cases e : q = i
      · subst e
        exact ⟨fun w w2 => a1 ⟨w, w2⟩, fun w => Decidable.not_not.mp (fun w2 => a2 ⟨w, w2⟩)⟩
      · exact b q (by omega) h2
    · intro h
      refine ⟨⟨fun w => (h i (Nat.le_refl _) (by omega)).1 w.1 w.2, fun w => w.2 ((h i (Nat.le_refl _) (by omega)).2 w.1)⟩, fun q h1 h2 => h q (by omega) h2⟩
theorem mem_nb {c : List II} {n k : Int32} (h : (n, k) ∈ c) : ∃ i, i < c.length ∧ nb c i = n ∧ ar c i = k := by
  obtain ⟨i, hi, e⟩ := List.getElem_of_mem h
  refine ⟨i, hi, ?_, ?_⟩
  · unfold nb q0; rw [List.getD_eq_getElem?_getD, List.getElem?_eq_getElem hi, e]; rfl
  · unfold ar q0; rw [List.getD_eq_getElem?_getD, List.getElem?_eq_getElem hi, e]; rfl
theorem judge_ok {c : List II} (hc : c.length < 2 ^ 27) (pj ds cm wt : List Int32) :
    ((j_judge (up c).1 (up c).2 pj ds cm wt).2.2.2.2 = true ↔ Right c) ∧
    ((j_judge (up c).1 (up c).2 pj ds cm wt).2.2.2.2 = true → (∀ k, ¬ k < 0 → k < 100 → nAt (j_judge (up c).1 (up c).2 pj ds cm wt).1 k = oI (plc c k)) ∧ ∃ D, RD c.length (j_judge (up c).1 (up c).2 pj ds cm wt).2.1 D ∧ OkH c D ∧ Sound c D ∧ Acy c D) := by
  unfold j_judge
  rw [up_len]
  by_cases c0 : 0 < c.length
  · rw [if_neg (fun w => w (by rw [← nI_0]; exact nI_lt c0 (by omega)))]
    by_cases c1 : j_fit (up c).1 (up c).2 c.length 0 = false
    · rw [if_pos c1]
      refine ⟨⟨fun w => (by cases w), fun w => ?_⟩, fun w => (by cases w)⟩
      have := (fit_iff (c := c) (by omega) c.length 0 (by omega)).mpr (by simpa using w.2.1)
      rw [c1] at this; cases this
    rw [if_neg c1]
    have hf : fitA c := by
      have := (fit_iff (c := c) (by omega) c.length 0 (by omega)).mp (by simpa using c1)
      simpa using this
    have honce := once_iff (c := c) (by omega) hf c.length 0 (List.replicate 100 (-1)) (by omega) (by simp) (fun k h1 h2 => by
      obtain ⟨x, hx, rfl⟩ := nI_of h1
      have := (nI_ltI hx (by omega) (b := 100)).mp h2
      rw [nAt_rep this (by omega)]
      simp) (by simp [LU])
    by_cases c2 : (j_once (up c).1 (up c).2 c.length 0 (List.replicate 100 (-1))).2 = false
    · rw [if_pos c2]
      refine ⟨⟨fun w => (by cases w), fun w => ?_⟩, fun w => (by cases w)⟩
      have := honce.mpr w.2.2.1
      rw [c2] at this; cases this
    rw [if_neg c2]
    have c2 : (j_once (up c).1 (up c).2 c.length 0 (List.replicate 100 (-1))).2 = true := by simpa using c2
    have hLU := honce.mp c2
    have hpl0 : (j_once (up c).1 (up c).2 c.length 0 (List.replicate 100 (-1))).1 = p_pls (up c) := by
      rw [once_places _ _ _ _ _ c2]
      unfold p_pls
      rw [up_len]
    simp only [hpl0]
    have hpl : ∀ k, ¬ k < 0 → k < 100 → nAt (p_pls (up c)) k = oI (plc c k) := fun k h1 h2 => pls_plc (by omega) hf hLU h1 h2
    have hlabk : ∀ k, (∃ t, after c k = some t) → ¬ k < 0 ∧ k < 100 := by
      rintro k ⟨t, ht⟩
      obtain ⟨p, hp, -⟩ := after_split ht
      exact (hf (13, k) (by rw [hp]; simp)).2.2.2.2 (.inr rfl)
    have hthere := there_iff (c := c) (pl := p_pls (up c)) hc c.length 0 (by omega)
    have hgo : ∀ q, q < c.length → t_goes (nb c q) = true → (¬ nAt (p_pls (up c)) (ar c q) = -1 ↔ ∃ t, after c (ar c q) = some t) := by
      intro q hq hg
      have hk := (hf _ (nb_mem hq)).2.2.2.2 (.inl hg)
      rw [hpl _ hk.1 hk.2]
      have h1 := oI_none (o := plc c (ar c q)) (fun j hj => by have := plc_lt hj; omega)
      rw [h1]
      unfold plc
      cases after c (ar c q) with
      | none => simp
      | some t => simp
    by_cases c3 : j_there (up c).1 (up c).2 (p_pls (up c)) c.length 0 = false
    · rw [if_pos c3]
      refine ⟨⟨fun w => (by cases w), fun w => ?_⟩, fun w => (by cases w)⟩
      have := hthere.mpr (fun q _ hq => ⟨fun hg => (hgo q hq hg).mpr (w.2.2.2.1 _ ⟨nb c q, hg, nb_mem hq⟩), w.2.2.2.2.1 q⟩)
      rw [c3] at this; cases this
    rw [if_neg c3]
    have h3 := hthere.mp (by simpa using c3)
    have hjp : ∀ k, goals c k → ∃ t, after c k = some t := by
      rintro k ⟨n, hn, hk⟩
      obtain ⟨i, hi, e1, e2⟩ := mem_nb hk
      have := (hgo i hi (by rw [e1]; exact hn)).mp ((h3 i (by omega) hi).1 (by rw [e1]; exact hn))
      rw [e2] at this
      exact this
    have h18 : ∀ i, nb c i = 18 → nb c (i + 1) = 12 := by
      intro i hi
      rcases Nat.lt_or_ge i c.length with w | w
      · exact (h3 i (by omega) w).2 hi
      · rw [nb_out w] at hi; exact absurd hi (by decide)
    have hS : SD c (p_pls (up c)) := ⟨hf, h18, hpl⟩
    obtain ⟨g1, g2⟩ := judge_ways hS hc c0
    generalize j_ways (up c).1 (up c).2 (p_pls (up c)) c.length (j_arrD (List.replicate c.length (-1)) 0 0) (j_arrW (List.replicate c.length (-1)) [] 0) = w at *
    by_cases c4 : w.2.2 = false
    · rw [if_pos c4]
      refine ⟨⟨fun q => (by cases q), fun q => ?_⟩, fun q => (by cases q)⟩
      obtain ⟨D, hD, -⟩ := q.2.2.2.2.2
      exact absurd ⟨D, hD⟩ (g2 c4)
    rw [if_neg c4]
    obtain ⟨D, hR, hOk, hSo⟩ := g1 (by simpa using c4)
    obtain ⟨k1, k2, k3⟩ := cnt_ref hS hc hR c.length 0 (List.replicate c.length 0) 0 (by omega) (by simp) (fun j hj => by rw [nAt_rep (free_lt hR hj) (by omega)]; rfl) rfl
    have e0 : nI 0 = 0 := rfl
    rw [e0] at k1 k2 k3
    have hb : ∀ j, ind c (List.range c.length) (fre' c D) j < 2 ^ 30 := fun j => by
      have := ind_le (c := c) (S := fre' c D) (j := j) (List.range c.length)
      rw [List.length_range] at this
      omega
    obtain ⟨W2, r1, r2, r3⟩ := roots_ref hc hR (fun j hj => ⟨k2 j hj, hb j⟩) c.length 0 [] (by omega) (by simp) (fun j hj => (by cases hj))
    have r1 : j_roots (up c).1 w.1 (j_cnt (up c).1 (up c).2 (p_pls (up c)) w.1 c.length 0 (List.replicate c.length 0) 0).1 c.length 0 [] = W2.map nI := r1
    have eSR : SR c D [] = fre' c D := by funext i; simp [SR]
    have hPI : PI c D (j_cnt (up c).1 (up c).2 (p_pls (up c)) w.1 c.length 0 (List.replicate c.length 0) 0).1 W2 [] := by
      refine ⟨k1, fun j hj => by rw [eSR]; exact k2 j hj, fun j hj => ?_, by simpa using r2, fun i hi => ?_, fun j hj => (by cases hj)⟩
      · rw [eSR, r3 j]
        constructor
        · intro h0; exact .inl (.inr ⟨Nat.zero_le _, free_lt hR hj, hj, h0⟩)
        · rintro ((w | w) | w)
          · cases w
          · exact w.2.2.2
          · cases w
      · rcases (r3 i).mp (by simpa using hi) with w | w
        · cases w
        · exact w.2.2.1
    have hpe := peel_ref hS hc hR c.length _ W2 [] hPI (by simp)
    rw [List.length_nil, Nat.sub_zero, ← k3] at hpe
    simp only [r1]
    rw [decide_eq_true_eq, hpe]
    refine ⟨⟨fun ha => ⟨c0, hf, hLU, hjp, h18, D, hOk, hSo, ha⟩, fun q => ?_⟩, fun ha => ⟨hpl, D, hR, hOk, hSo, ha⟩⟩
    obtain ⟨D', d1, d2, d3⟩ := q.2.2.2.2.2
    rw [ok_unique hOk hSo d1 d2]
    exact d3
  · have e : c.length = 0 := by omega
    rw [if_pos (show ¬ (0 : Int32) < nI c.length by rw [e]; decide)]
    exact ⟨⟨fun w => (by cases w), fun w => absurd w.1 c0⟩, fun w => (by cases w)⟩
