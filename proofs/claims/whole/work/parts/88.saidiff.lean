/-! THE REFERENCE: what is said of each instruction is what the judge asks -/
theorem plc_le {c : List II} {k : Int32} : ∀ (q : Nat), q < c.length → nb c q = 13 → ar c q = k → ∃ p, p ≤ q ∧ plc c k = some p := by
  intro q
  induction q using Nat.strongRecOn with
  | ind q ih =>
  intro hq h1 h2
  by_cases hx : ∃ p, p < q ∧ nb c p = 13 ∧ ar c p = k
  · obtain ⟨p, hp, e1, e2⟩ := hx
    obtain ⟨r, hr, e⟩ := ih p hp (by omega) e1 e2
    exact ⟨r, by omega, e⟩
  · exact ⟨q, Nat.le_refl _, plc_first (fun p hp w => hx ⟨p, hp, w.1, w.2⟩) hq h1 h2⟩
theorem LU_of {c : List II} (h : ∀ q, q < c.length → nb c q = 13 → plc c (ar c q) = some q) : LU c := by
  have key : ∀ i, i ≤ c.length → LU (c.take i) := by
    intro i
    induction i with
    | zero => intro _; simp [LU]
    | succ i ih =>
      intro hi
      have hlt : i < c.length := by omega
      have ht : c.take (i + 1) = c.take i ++ [q0 c i] := by
        rw [List.take_succ_eq_append_getElem hlt]
        congr 2
        simp [q0, hlt]
      rw [ht]
      have hLU := ih (by omega)
      unfold LU at hLU ⊢
      rw [List.filter_append, List.nodup_append]
      refine ⟨hLU, ?_, ?_⟩
      · have := List.length_filter_le lab [q0 c i]
        cases hx : [q0 c i].filter lab with
        | nil => simp
        | cons a l =>
          rw [hx] at this
          simp at this
          subst this
          simp
      · intro x hx y hy
        rintro rfl
        have hy2 := (List.mem_filter.mp hy)
        have e : x = q0 c i := List.mem_singleton.mp hy2.1
        have h13 : nb c i = 13 := by
          have := hy2.2
          rw [e] at this
          exact of_decide_eq_true this
        have hx1 := (List.mem_filter.mp hx).1
        obtain ⟨q, hq, eq⟩ := List.getElem_of_mem hx1
        rw [List.length_take] at hq
        have e2 : q0 c q = x := by
          unfold q0
          rw [List.getD_eq_getElem?_getD, List.getElem?_eq_getElem (by omega), ← eq, List.getElem_take]
          rfl
        have e3 : nb c q = nb c i ∧ ar c q = ar c i := by
          unfold nb ar
          rw [e2, e]
          exact ⟨rfl, rfl⟩
        have p1 := h i hlt h13
        have p2 := h q (by omega) (e3.1.trans h13)
        rw [e3.2, p1] at p2
        have := Option.some.inj p2
        omega
  have := key c.length (Nat.le_refl _)
  rwa [List.take_of_length_le (Nat.le_refl _)] at this
theorem said_iff {c : List II} (hc : c.length ≤ 400) : (∀ q, q < c.length → sd1 c q) ↔ (fitA c ∧ LU c ∧ (∀ k, goals c k → ∃ t, after c k = some t) ∧ ∀ i, nb c i = 18 → nb c (i + 1) = 12) := by
  have pn : ∀ k, oI (plc c k) = -1 ↔ plc c k = none := fun k => oI_none (fun j hj => by have := plc_lt hj; omega)
  have goes_iff : ∀ n : Int32, t_goes n = true ↔ (¬ n < 10 ∧ ¬ 12 < n) := fun n => by rw [← in_goes, decide_eq_true_eq]
  have after_plc : ∀ k, (∃ t, after c k = some t) ↔ ¬ plc c k = none := by
    intro k
    unfold plc
    cases after c k with
    | none => simp
    | some t => simp
  constructor
  · intro h
    have hf : fitA c := by
      intro x hx
      obtain ⟨i, hi, e1, e2⟩ := mem_nb (n := x.1) (k := x.2) hx
      have := fit1_iff.mp (h i hi).1
      rw [e1, e2] at this
      exact this
    refine ⟨hf, LU_of (fun q hq h13 => ?_), ?_, ?_⟩
    · have h1 := (h q hq).2.1 h13
      obtain ⟨p, hp, e⟩ := plc_le q hq h13 rfl
      rw [e] at h1 ⊢
      have h1 : nI p = nI q := h1
      rw [(nI_eq (by omega) (by omega)).mp h1]
    · rintro k ⟨n, hn, hm⟩
      obtain ⟨i, hi, e1, e2⟩ := mem_nb hm
      rw [← e1] at hn
      have hg := (goes_iff _).mp hn
      have := (h i hi).2.2.1 hg.1 hg.2
      rw [e2] at this
      exact (after_plc k).mpr (fun w => this ((pn k).mpr w))
    · intro i h18
      rcases Nat.lt_or_ge i c.length with w | w
      · exact ((h i w).2.2.2 h18).2
      · rw [nb_out w] at h18; exact absurd h18 (by decide)
  · rintro ⟨hf, hLU, hjp, h18⟩ q hq
    refine ⟨fit1_iff.mpr (hf _ (nb_mem hq)), fun h13 => ?_, fun g1 g2 => ?_, fun h => ?_⟩
    · rw [(plc_self hLU hq h13).1]; rfl
    · have hg : t_goes (nb c q) = true := (goes_iff _).mpr ⟨g1, g2⟩
      exact fun w => (after_plc _).mp (hjp _ ⟨nb c q, hg, nb_mem hq⟩) ((pn _).mp w)
    · have h12 := h18 q h
      have hlt : q + 1 < c.length := by
        rcases Nat.lt_or_ge (q + 1) c.length with w | w
        · exact w
        · rw [nb_out w] at h12; exact absurd h12 (by decide)
      exact ⟨nI_lt hlt (by omega), h12⟩
