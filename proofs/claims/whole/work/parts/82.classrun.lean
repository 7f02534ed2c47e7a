/-! THE CLASS: a right code run gives the row's answer -/
theorem up_inj {a b : List II} (h : up a = up b) : a = b := by
  have h1 := congrArg Prod.fst h
  have h2 := congrArg Prod.snd h
  unfold up at h1 h2
  simp only at h1 h2
  induction a generalizing b with
  | nil =>
    cases b with
    | nil => rfl
    | cons y b => simp at h1
  | cons x a ih =>
    cases b with
    | nil => simp at h1
    | cons y b =>
      rw [List.map_cons, List.map_cons] at h1 h2
      obtain ⟨e1, t1⟩ := List.cons.inj h1
      obtain ⟨e2, t2⟩ := List.cons.inj h2
      rw [Prod.ext e1 e2, ih (Prod.ext t1 t2) t1 t2]
theorem pass_lab {c c' : List II} (hf : fitA c) (hc : c.length < 60000) (h : p_pass (up c) = up c') {k : Int32} (hk : (13, k) ∈ c') : (13, k) ∈ c := by
  have hl : (up c).1.length = c.length := up_len c
  have h1 := p_rew_up (pl := p_pls (up c)) (us := p_uss (up c)) (c := c) (by omega) c.length 0 false [] (by omega) (by simp; omega)
  have h2 : p_pass (up c) = up (q_code (usB (p_uss (up c))) (p_far (p_pls (up c)) (up c).1 (up c).2 100) c) := by
    unfold p_pass
    rw [hl]
    rw [List.drop_zero] at h1
    exact h1
  rw [h2] at h
  have e := up_inj h
  rw [← e] at hk
  unfold q_code at hk
  have hk := List.mem_reverse.mp hk
  have h3 := q_rew_lab (us := usB (p_uss (up c))) (fr := p_far (p_pls (up c)) (up c).1 (up c).2 100) c (false, []) (fitA_8 hf) (by intro j hj; cases hj)
  have h4 := h3.subset (List.mem_filter.mpr ⟨hk, rfl⟩)
  rw [List.filter_nil, List.append_nil] at h4
  exact List.mem_reverse.mp (List.mem_filter.mp h4).1
theorem class_run {c : List II} {pj ds : List Int32} {D : Nat → Option Nat} {ρ : Nat → Nat} (hc : c.length ≤ 400) (hf : fitA c) (hLU : LU c) (hjp : ∀ k, goals c k → ∃ t, after c k = some t) (h18 : ∀ i, nb c i = 18 → nb c (i + 1) = 12) (hOk : OkH c D) (hSo : Sound c D) (hρ : ∀ i j, fre' c D i = true → fre' c D j = true → cE c i j ≠ 0 → ρ j < ρ i)
    (hpl : ∀ k, ¬ k < 0 → k < 100 → nAt pj k = oI (plc c k)) (hR : RD c.length ds D) :
    OKL (up c).1 (up c).2 pj ds ∧ (gof (up c).1 (up c).2 pj ds).1.length ≤ 8000 ∧
    ∀ (F n : Nat) (st L V : Nat → Int32) (R : Rz) (sl : List Int32) (a b : Int32), F ≤ 20000 → fk (Lv c n) c bot (st, none, L, V, nI F) = some R → sl.length = 60 →
      ∃ Bd, (nI F + 2) * (nI (gof (up c).1 (up c).2 pj ds).1.length + 1) = nI Bd ∧ Bd < 2 ^ 31 ∧
        mR (m_exec (gof (up c).1 (up c).2 pj ds).1 (gof (up c).1 (up c).2 pj ds).2.1 Bd (sl, a, b, 0, -1, 0, nI F, L, V)) = R ∧
        (m_exec (gof (up c).1 (up c).2 pj ds).1 (gof (up c).1 (up c).2 pj ds).2.1 Bd (sl, a, b, 0, -1, 0, nI F, L, V)).1.length = 60 := by
  have hg1 := copy_good hf hLU hjp h18 hOk hSo hρ
  have hcp : p_copy (up c).1 (up c).2 ds (up c).1.length 0 [] [] = up (rst c D c.length 0) := by
    rw [up_len]
    have := copy_ref (c := c) (D := D) (by omega) hR c.length 0 [] (by omega)
    rw [List.nil_append] at this
    exact this
  have hl1 : (rst c D c.length 0).length ≤ c.length := by
    have := (rst_sub (c := c) (D := D) c.length 0 (by omega)).length_le
    rwa [List.drop_zero] at this
  have hlab1 : ∀ k, (13, k) ∈ rst c D c.length 0 → ∃ p h, plc c k = some p ∧ D p = some h := by
    intro k hk
    obtain ⟨j, -, hj, hkj, e⟩ := mem_rst c.length 0 (by omega) hk
    have e1 : nb c j = 13 := by unfold nb; rw [← e]
    have e2 : ar c j = k := by unfold ar; rw [← e]
    have hp := (plc_self hLU hj e1).1
    rw [e2] at hp
    cases hv : D j with
    | some h => exact ⟨j, h, hp, hv⟩
    | none =>
      have hq : 1 ≤ j ∧ nb c (j - 1) = 18 ∧ (D (j - 1)).isSome = true := by simpa [kp, hv] using hkj
      have := h18 _ hq.2.1
      rw [show j - 1 + 1 = j by omega, e1] at this
      exact absurd this (by decide)
  have hsem1 := fun n σ hσ => (copy_sem hLU hjp h18 hOk hSo n).2 c.length 0 0 (by omega) hOk.1 σ hσ
  generalize rst c D c.length 0 = k1 at *
  obtain ⟨k2, p2, g2, l2, s2⟩ := pass_good (by omega) hg1
  obtain ⟨k3, p3, g3, l3, s3⟩ := pass_good (by omega) g2
  obtain ⟨k4, p4, g4, l4, s4⟩ := pass_good (by omega) g3
  obtain ⟨k5, p5, g5, l5, s5⟩ := pass_good (by omega) g4
  have hlab5 : ∀ k, (13, k) ∈ k5 → (13, k) ∈ k1 := fun k hk => pass_lab hg1.fit (by omega) p2 (pass_lab g2.fit (by omega) p3 (pass_lab g3.fit (by omega) p4 (pass_lab g4.fit (by omega) p5 hk)))
  have e4 : c4of (up c).1 (up c).2 ds = up k5 := by
    unfold c4of
    rw [hcp, p2, p3, p4, p5]
  have h60 : ∀ k, (CD c D ρ).hh k ≤ 60 := by
    intro k
    show hhD c D k ≤ 60
    unfold hhD
    cases hp : plc c k with
    | none => exact Nat.zero_le _
    | some j =>
      show (D j).getD 0 ≤ 60
      cases hv : D j with
      | none => exact Nat.zero_le _
      | some h => exact (hSo j h hv).2.2
  have hds : ∀ x : Int32, (nAt ds x).toNatClampNeg ≤ 131072 := by
    intro x
    by_cases hx : x < 0
    · rw [nAt_neg hx]; decide
    · obtain ⟨j, hj, rfl⟩ := nI_of hx
      rcases Nat.lt_or_ge j c.length with w | w
      · rw [hR.2.1 j w]
        cases hv : D j with
        | none => show (-1 : Int32).toNatClampNeg ≤ 131072; decide
        | some h =>
          have := (hSo j h hv).2.2
          show (nI h).toNatClampNeg ≤ 131072
          rw [nI_clamp (by omega)]
          omega
      · have : nAt ds (nI j) = -1 := by
          rw [nAt_nat hj, List.getD_eq_getElem?_getD, List.getElem?_eq_none (by rw [hR.1]; exact w)]; rfl
        rw [this]; decide
  have hdl : ∀ k, (13, k) ∈ k5 → (fun k => nAt ds (nAt pj k)) k = nI ((CD c D ρ).hh k) := by
    intro k hk
    obtain ⟨p, h, hp, hD⟩ := hlab1 k (hlab5 k hk)
    have hr := (g5.fit (13, k) hk).2.2.2.2 (.inr rfl)
    show nAt ds (nAt pj k) = nI (hhD c D k)
    rw [hpl k hr.1 hr.2, hp]
    show nAt ds (nI p) = _
    rw [hR.2.1 p (plc_lt hp), hD]
    show nI h = nI (hhD c D k)
    unfold hhD
    rw [hp]
    show nI h = nI ((D p).getD 0)
    rw [hD]
    rfl
  obtain ⟨r1, im, r2, r3, r4, r5⟩ := run_ok h60 g5 (by omega) hdl (fun k => hds _)
  have et : (tof (up c).1 (up c).2 pj ds).1 = im := by
    unfold tof
    rw [e4]
    exact r2
  have eg : gof (up c).1 (up c).2 pj ds = g_fin (g_dec im (im.length + 1) 0 ([], [], List.replicate 100 (-1))) := by
    unfold gof
    rw [et]
  refine ⟨⟨?_, ?_, ?_, ?_, ?_, ?_, ?_⟩, ?_, ?_⟩
  · rw [hcp, up_len]; omega
  · rw [hcp, p2, up_len]; omega
  · rw [hcp, p2, p3, up_len]; omega
  · rw [hcp, p2, p3, p4, up_len]; omega
  · rw [e4, up_len]; omega
  · rw [e4]; exact r1
  · rw [et]; exact r3
  · rw [eg]; exact r4
  · intro F n st L V R sl a b hF h hsl
    rw [eg]
    refine r5 F n st L V R sl a b hF ?_ hsl
    have hc0 : c.drop 0 = c := List.drop_zero
    have h1 := hsem1 n (st, none, L, V, nI F) rfl
    rw [hc0] at h1
    exact s5 n _ rfl R (s4 n _ rfl R (s3 n _ rfl R (s2 n _ rfl R (h1 R h))))
