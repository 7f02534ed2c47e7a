/-! SETTLED PLACES, and two values brought together -/
theorem toA_slot {t : TX} (w : TW t) {p q : Nat} (hp : p < t.2.1.length) (hq : q < t.2.1.length) (hne : q ≠ p) (h0 : nAt t.2.1 (nI q) = 0) : nAt (tx_toA t (nI p)).2.1 (nI q) = 0 := by
  have h60 := w.d60
  unfold tx_toA
  split
  · exact h0
  split
  · exact h0
  have e7 : (tx_keepB t).2.1.length = t.2.1.length := by
    unfold tx_keepB
    split
    · rfl
    · exact nSet_len _ _ _
  have e6 : (tx_load (tx_keepB t) (nI p)).2.1 = (tx_keepB t).2.1 := by
    unfold tx_load
    repeat' split
    all_goals rfl
  show nAt (nSet (tx_load (tx_keepB t) (nI p)).2.1 (nI p) 1) (nI q) = 0
  rw [e6, nAt_setq (by rw [e7]; exact hq) (by rw [e7]; omega), if_neg (fun c => hne ((nI_eq (by omega) (by omega)).mp c).symm)]
  unfold tx_keepB
  split
  · exact h0
  · show nAt (nSet t.2.1 t.2.2.2.2 0) (nI q) = 0
    rw [nAt_setq hq (by omega)]
    split
    · rfl
    · exact h0
theorem settle1_slot {t : TX} (w : TW t) {p q : Nat} (hp : p < t.2.1.length) (hq : q < t.2.1.length) (h0 : q = p ∨ nAt t.2.1 (nI q) = 0) : nAt (tx_settle1 t (nI p)).2.1 (nI q) = 0 := by
  have h60 := w.d60
  unfold tx_settle1
  split
  · rename_i c
    rcases h0 with rfl | h0
    · exact c
    · exact h0
  split
  · show nAt (nSet t.2.1 (nI p) 0) (nI q) = 0
    rw [nAt_setq hq (by omega)]
    split
    · rfl
    · rename_i c
      exact h0.resolve_left (fun e => c (by rw [e]))
  · show nAt (nSet (tx_toA t (nI p)).2.1 (nI p) 0) (nI q) = 0
    have lu := (toA_mv w hp).2.1
    rw [nAt_setq (by rw [lu]; exact hq) (by rw [lu]; omega)]
    split
    · rfl
    · rename_i c
      have hne : q ≠ p := fun e => c (by rw [e])
      exact toA_slot w hp hq hne (h0.resolve_left hne)
theorem settle_mv (d : Nat) : ∀ (i : Nat) (t : TX), TW t → i + d ≤ t.2.1.length → Mv t (tx_settle d i t) ∧ ∀ q, q < t.2.1.length → ((i ≤ q ∧ q < i + d) ∨ nAt t.2.1 (nI q) = 0) → nAt (tx_settle d i t).2.1 (nI q) = 0 := by
  induction d with
  | zero =>
    intro i t w _
    refine ⟨Mv.refl w, fun q _ h => ?_⟩
    rcases h with h | h
    · omega
    · exact h
  | succ d ih =>
    intro i t w hi
    have h1 := settle1_mv w (p := i) (by omega)
    have l1 := h1.2.1
    obtain ⟨h2, h3⟩ := ih (i + 1) (tx_settle1 t (nI i)) h1.1 (by rw [l1]; omega)
    refine ⟨h1.trans h2, fun q hq h => h3 q (by rw [l1]; exact hq) ?_⟩
    by_cases c : i + 1 ≤ q ∧ q < i + 1 + d
    · exact .inl c
    · right
      refine settle1_slot w (by omega) hq ?_
      rcases h with h | h
      · left; omega
      · exact .inr h
theorem locv_slot {t : TX} (w : TW t) {q : Nat} (hq : q < t.2.1.length) (h0 : nAt t.2.1 (nI q) = 0) (m : MM) : locv t m q = nAt m.1 (nI q) := by
  have h1 : ¬ (t.2.2.2.1 = nI q ∨ t.2.2.2.2 = nI q) := fun c => by
    have := w.reg q hq c
    rw [h0] at this
    revert this; decide
  unfold locv
  rw [if_neg (fun c => h1 (.inl c)), if_neg (fun c => h1 (.inr c)), if_pos h0]
/-- the top two, y in A and x in B; or crosswise -/
theorem meet_mv {t : TX} (w : TW t) {d : Nat} (hd : t.2.1.length = d + 2) (m : Bool) : Mv t (tx_meet t m).1 ∧
    (((tx_meet t m).2 = false ∧ (tx_meet t m).1.2.2.2.1 = nI (d + 1) ∧ (tx_meet t m).1.2.2.2.2 = nI d) ∨ (m = true ∧ (tx_meet t m).2 = true ∧ (tx_meet t m).1.2.2.2.1 = nI d ∧ (tx_meet t m).1.2.2.2.2 = nI (d + 1))) := by
  have h60 := w.d60
  have ey : nI t.2.1.length - 1 = nI (d + 1) := by rw [hd]; exact nI_pred (d + 1)
  have ex : nI (d + 1) - 1 = nI d := nI_pred d
  have hxy : ¬ nI d = nI (d + 1) := fun c => by have := (nI_eq (by omega) (by omega)).mp c; omega
  unfold tx_meet
  simp only [ey, ex]
  by_cases c1 : t.2.2.2.1 = nI (d + 1) ∧ t.2.2.2.2 = nI d
  · rw [if_pos c1]
    exact ⟨Mv.refl w, .inl ⟨rfl, c1.1, c1.2⟩⟩
  rw [if_neg c1]
  by_cases c2 : ¬ t.2.2.2.1 = nI (d + 1) ∧ ¬ t.2.2.2.2 = nI (d + 1)
  · rw [if_pos c2]
    have m1 := toA_mv w (p := d) (by omega)
    have a1 := tx_toA_AB t (nI d)
    have m2 := toA_mv m1.1 (p := d + 1) (by rw [m1.2.1]; omega)
    have a2 := tx_toA_AB (tx_toA t (nI d)) (nI (d + 1))
    refine ⟨m1.trans m2, .inl ⟨rfl, a2.1, ?_⟩⟩
    rw [a2.2 (by rw [a1.1]; exact hxy), a1.1]
  rw [if_neg c2]
  by_cases c3 : t.2.2.2.1 = nI d
  · rw [if_pos c3]
    have cB : t.2.2.2.2 = nI (d + 1) := Decidable.not_not.mp (fun c => c2 ⟨by rw [c3]; exact hxy, c⟩)
    cases m with
    | true => exact ⟨Mv.refl w, .inr ⟨rfl, rfl, c3, cB⟩⟩
    | false =>
      have m1 := toA_mv w (p := d + 1) (by omega)
      have a1 := tx_toA_AB t (nI (d + 1))
      refine ⟨m1, .inl ⟨rfl, a1.1, ?_⟩⟩
      show (tx_toA t (nI (d + 1))).2.2.2.2 = nI d
      rw [a1.2 (by rw [c3]; exact hxy), c3]
  · rw [if_neg c3]
    have m1 := toA_mv w (p := d + 1) (by omega)
    have a1 := tx_toA_AB t (nI (d + 1))
    have m2 := toA_mv m1.1 (p := d) (by rw [m1.2.1]; omega)
    have a2 := tx_toA_AB (tx_toA t (nI (d + 1))) (nI d)
    have b2 : (tx_toA (tx_toA t (nI (d + 1))) (nI d)).2.2.2.2 = nI (d + 1) := by rw [a2.2 (by rw [a1.1]; exact fun c => hxy c.symm), a1.1]
    cases m with
    | true => exact ⟨m1.trans m2, .inr ⟨rfl, rfl, a2.1, b2⟩⟩
    | false =>
      have m3 := toA_mv m2.1 (p := d + 1) (by rw [m2.2.1, m1.2.1]; omega)
      have a3 := tx_toA_AB (tx_toA (tx_toA t (nI (d + 1))) (nI d)) (nI (d + 1))
      refine ⟨(m1.trans m2).trans m3, .inl ⟨rfl, a3.1, ?_⟩⟩
      show (tx_toA (tx_toA (tx_toA t (nI (d + 1))) (nI d)) (nI (d + 1))).2.2.2.2 = nI d
      rw [a3.2 (by rw [a2.1]; exact hxy), a2.1]
/-- the end of the row cut off -/
theorem p_c_take {l : List Int32} {c : Nat} (h : c ≤ l.length) (hl : l.length < 2 ^ 31) : p_c l (nI c) = l.take (l.length - c) := by
  unfold p_c nCut
  rw [nI_subn h, nI_clamp (by omega)]
theorem nAt_take {l : List Int32} {n q : Nat} (hq : q < n) (hl : q < 2 ^ 31) : nAt (l.take n) (nI q) = nAt l (nI q) := by
  rw [nAt_nat hl, nAt_nat hl, List.getD_eq_getElem?_getD, List.getD_eq_getElem?_getD, List.getElem?_take_of_lt hq]
theorem drop_tw {t : TX} (w : TW t) {c d : Nat} (hd : t.2.1.length = d + c) : TW (tx_drop t (nI c)) ∧ (tx_drop t (nI c)).2.1.length = d ∧ (∀ m q, q < d → locv (tx_drop t (nI c)) m q = locv t m q) ∧
    (∀ q, q < d → ((tx_drop t (nI c)).2.2.2.1 = nI q ↔ t.2.2.2.1 = nI q) ∧ ((tx_drop t (nI c)).2.2.2.2 = nI q ↔ t.2.2.2.2 = nI q)) ∧ ∀ q, q < d → nAt (tx_drop t (nI c)).2.1 (nI q) = nAt t.2.1 (nI q) := by
  have h60 := w.d60
  have hlen := w.len
  have e1 : p_c t.2.1 (nI c) = t.2.1.take d := by rw [p_c_take (by omega) (by omega), hd, Nat.add_sub_cancel]
  have e2 : p_c t.2.2.1 (nI c) = t.2.2.1.take d := by rw [p_c_take (by omega) (by omega), hlen, hd, Nat.add_sub_cancel]
  have l1 : (t.2.1.take d).length = d := by rw [List.length_take]; omega
  have l2 : (t.2.2.1.take d).length = d := by rw [List.length_take]; omega
  unfold tx_drop
  rw [e1, e2, l1]
  have cut : ∀ x : Int32, (x = -1 ∨ ∃ p, p < t.2.1.length ∧ x = nI p) → ∀ q, q < d → ((if x < nI d then x else -1) = nI q ↔ x = nI q) := by
    intro x hx q hq
    by_cases c : x < nI d
    · rw [if_pos c]
    · rw [if_neg c]
      constructor
      · intro e; exact absurd e.symm (nI_ne_neg (by omega))
      · rintro rfl; exact absurd (nI_lt hq (by omega)) c
  have rng : ∀ x : Int32, (x = -1 ∨ ∃ p, p < t.2.1.length ∧ x = nI p) → ((if x < nI d then x else -1) = -1 ∨ ∃ p, p < d ∧ (if x < nI d then x else -1) = nI p) := by
    rintro x (rfl | ⟨p, hp, rfl⟩)
    · left; split <;> rfl
    · by_cases c : nI p < nI d
      · right; rw [if_pos c]; exact ⟨p, (nI_ltI (by omega) (by omega)).mp c, rfl⟩
      · left; rw [if_neg c]
  have cA := cut _ w.iA
  have cB := cut _ w.iB
  refine ⟨⟨by show (t.2.2.1.take d).length = (t.2.1.take d).length; rw [l1, l2], by show (t.2.1.take d).length ≤ 60; omega, by show _ ∨ ∃ p, p < (t.2.1.take d).length ∧ _; rw [l1]; exact rng _ w.iA, by show _ ∨ ∃ p, p < (t.2.1.take d).length ∧ _; rw [l1]; exact rng _ w.iB, ?_, ?_, ?_⟩, rfl, ?_, fun q hq => ⟨cA q hq, cB q hq⟩, fun q hq => nAt_take hq (by omega)⟩
  · intro e
    have e : (if t.2.2.2.1 < nI d then t.2.2.2.1 else -1) = (if t.2.2.2.2 < nI d then t.2.2.2.2 else -1) := e
    show (if t.2.2.2.1 < nI d then t.2.2.2.1 else -1) = -1
    by_cases c : t.2.2.2.1 < nI d
    · rw [if_pos c] at e ⊢
      by_cases c2 : t.2.2.2.2 < nI d
      · rw [if_pos c2] at e; exact w.ab e
      · rw [if_neg c2] at e; exact e
    · rw [if_neg c]
  · intro p hp hr
    have hp : p < (t.2.1.take d).length := hp
    rw [l1] at hp
    show nAt (t.2.1.take d) (nI p) = 1
    rw [nAt_take hp (by omega)]
    refine w.reg p (by omega) ?_
    rcases hr with hr | hr
    · exact .inl ((cA p hp).mp hr)
    · exact .inr ((cB p hp).mp hr)
  · intro p hp
    have hp : p < (t.2.1.take d).length := hp
    rw [l1] at hp
    show nAt (t.2.1.take d) (nI p) = 0 ∨ nAt (t.2.1.take d) (nI p) = 2 ∨ nAt (t.2.1.take d) (nI p) = 3 ∨ _ = nI p ∨ _ = nI p
    rw [nAt_take hp (by omega), cA p hp, cB p hp]
    exact w.knd p (by omega)
  · intro m q hq
    unfold locv
    show (if (if t.2.2.2.1 < nI d then t.2.2.2.1 else -1) = nI q then _ else if (if t.2.2.2.2 < nI d then t.2.2.2.2 else -1) = nI q then _ else if nAt (t.2.1.take d) (nI q) = 0 then _ else if nAt (t.2.1.take d) (nI q) = 2 then nAt (t.2.2.1.take d) (nI q) else mLa _ (nAt (t.2.2.1.take d) (nI q))) = _
    rw [nAt_take hq (by omega), nAt_take hq (by omega)]
    simp only [cA q hq, cB q hq]
