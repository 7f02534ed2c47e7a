/-! WHERE THE VALUES ARE: moves between registers and slots change nothing -/
theorem nAt_setq {xs : List Int32} {i v : Int32} {q : Nat} (hq : q < xs.length) (hl : xs.length < 2 ^ 31) : nAt (nSet xs i v) (nI q) = if i = nI q then v else nAt xs (nI q) := by
  by_cases hi : i < 0
  · rw [nAt_set_neg hi, if_neg]
    rintro rfl
    exact nI_pos (by omega) hi
  · exact nAt_set (nI_pos (by omega)) (by rw [nI_clamp (by omega)]; exact hq) hi
def mv (e : List II) (m : MM) : MM := e.foldl (fun m i => m_move m i.1 i.2) m
theorem mv_app (a b : List II) (m : MM) : mv (a ++ b) m = mv b (mv a m) := List.foldl_append
def quiet (e : List II) : Prop := ∀ i ∈ e, ¬ i.1 < 1 ∧ i.1 < 7
theorem quiet_app {a b : List II} (h1 : quiet a) (h2 : quiet b) : quiet (a ++ b) := by
  intro i hi
  rcases List.mem_append.mp hi with w | w
  · exact h1 i w
  · exact h2 i w
theorem m_move_keep (m : MM) (n k : Int32) : (m_move m n k).1.length = m.1.length ∧ (m_move m n k).2.2.2 = m.2.2.2 := by
  obtain ⟨sl, a, b, pq, sa, ev, fl, L, V⟩ := m
  rw [m_move]
  repeat' split
  all_goals first
    | exact ⟨rfl, rfl⟩
    | exact ⟨nSet_len _ _ _, rfl⟩
theorem mv_keep (e : List II) : ∀ m : MM, (mv e m).1.length = m.1.length ∧ (mv e m).2.2.2 = m.2.2.2 := by
  induction e with
  | nil => intro m; exact ⟨rfl, rfl⟩
  | cons i e ih =>
    intro m
    have h1 := ih (m_move m i.1 i.2)
    have h2 := m_move_keep m i.1 i.2
    exact ⟨h1.1.trans h2.1, h1.2.trans h2.2⟩
def locv (t : TX) (m : MM) (p : Nat) : Int32 :=
  if t.2.2.2.1 = nI p then m.2.1 else if t.2.2.2.2 = nI p then m.2.2.1 else if nAt t.2.1 (nI p) = 0 then nAt m.1 (nI p) else if nAt t.2.1 (nI p) = 2 then nAt t.2.2.1 (nI p) else mLa m.2.2.2.2.2.2.2.1 (nAt t.2.2.1 (nI p))
abbrev TW (t : TX) : Prop :=
  (t.2.2.1.length = t.2.1.length) ∧
  (t.2.1.length ≤ 60) ∧
  (t.2.2.2.1 = -1 ∨ ∃ p, p < t.2.1.length ∧ t.2.2.2.1 = nI p) ∧
  (t.2.2.2.2 = -1 ∨ ∃ p, p < t.2.1.length ∧ t.2.2.2.2 = nI p) ∧
  (t.2.2.2.1 = t.2.2.2.2 → t.2.2.2.1 = -1) ∧
  (∀ p, p < t.2.1.length → (t.2.2.2.1 = nI p ∨ t.2.2.2.2 = nI p) → nAt t.2.1 (nI p) = 1) ∧
  (∀ p, p < t.2.1.length → nAt t.2.1 (nI p) = 0 ∨ nAt t.2.1 (nI p) = 2 ∨ nAt t.2.1 (nI p) = 3 ∨ t.2.2.2.1 = nI p ∨ t.2.2.2.2 = nI p)
theorem TW.len {t : TX} (w : TW t) : t.2.2.1.length = t.2.1.length := w.1
theorem TW.d60 {t : TX} (w : TW t) : t.2.1.length ≤ 60 := w.2.1
theorem TW.iA {t : TX} (w : TW t) : t.2.2.2.1 = -1 ∨ ∃ p, p < t.2.1.length ∧ t.2.2.2.1 = nI p := w.2.2.1
theorem TW.iB {t : TX} (w : TW t) : t.2.2.2.2 = -1 ∨ ∃ p, p < t.2.1.length ∧ t.2.2.2.2 = nI p := w.2.2.2.1
theorem TW.ab {t : TX} (w : TW t) : t.2.2.2.1 = t.2.2.2.2 → t.2.2.2.1 = -1 := w.2.2.2.2.1
theorem TW.reg {t : TX} (w : TW t) : ∀ p, p < t.2.1.length → (t.2.2.2.1 = nI p ∨ t.2.2.2.2 = nI p) → nAt t.2.1 (nI p) = 1 := w.2.2.2.2.2.1
theorem TW.knd {t : TX} (w : TW t) : ∀ p, p < t.2.1.length → nAt t.2.1 (nI p) = 0 ∨ nAt t.2.1 (nI p) = 2 ∨ nAt t.2.1 (nI p) = 3 ∨ t.2.2.2.1 = nI p ∨ t.2.2.2.2 = nI p := w.2.2.2.2.2.2
theorem nI_ne_neg {p : Nat} (h : p < 2 ^ 31) : ¬ nI p = -1 := by
  intro w
  have := nI_pos h
  rw [w] at this
  exact this (by decide)
def Mv (t t' : TX) : Prop := TW t' ∧ t'.2.1.length = t.2.1.length ∧ ∃ e, t'.1 = t.1 ++ e ∧ quiet e ∧ ∀ m : MM, m.1.length = 60 → ∀ q, q < t.2.1.length → locv t' (mv e m) q = locv t m q
theorem Mv.refl {t : TX} (w : TW t) : Mv t t := ⟨w, rfl, [], by simp, (by intro i hi; cases hi), fun m _ q _ => rfl⟩
theorem Mv.trans {a b c : TX} (h1 : Mv a b) (h2 : Mv b c) : Mv a c := by
  obtain ⟨w1, l1, e1, i1, q1, v1⟩ := h1
  obtain ⟨w2, l2, e2, i2, q2, v2⟩ := h2
  refine ⟨w2, l2.trans l1, e1 ++ e2, by rw [i2, i1, List.append_assoc], quiet_app q1 q2, fun m hm q hq => ?_⟩
  rw [mv_app, v2 _ (by rw [(mv_keep e1 m).1]; exact hm) q (by rw [l1]; exact hq), v1 m hm q hq]
theorem tx_toA_AB (t : TX) (p : Int32) : (tx_toA t p).2.2.2.1 = p ∧ ((¬ t.2.2.2.1 = p) → (tx_toA t p).2.2.2.2 = t.2.2.2.1) := by
  unfold tx_toA
  by_cases h : t.2.2.2.1 = p
  · rw [if_pos h]; exact ⟨h, fun w => absurd h w⟩
  rw [if_neg h]
  by_cases h2 : t.2.2.2.2 = p
  · rw [if_pos h2]; exact ⟨rfl, fun _ => rfl⟩
  rw [if_neg h2]
  refine ⟨rfl, fun _ => ?_⟩
  unfold tx_load tx_keepB
  simp only
  repeat' split
  all_goals rfl
theorem toA_mv {t : TX} (w : TW t) {p : Nat} (hp : p < t.2.1.length) : Mv t (tx_toA t (nI p)) := by
  have h60 := w.d60
  unfold tx_toA
  by_cases h : t.2.2.2.1 = nI p
  · rw [if_pos h]; exact Mv.refl w
  rw [if_neg h]
  by_cases h2 : t.2.2.2.2 = nI p
  · rw [if_pos h2]
    refine ⟨⟨w.len, w.d60, .inr ⟨p, hp, rfl⟩, w.iA, fun q => absurd q.symm h, fun q hq hr => ?_, fun q hq => ?_⟩, rfl, [(6, 0)], rfl, ?_, fun m hm q hq => ?_⟩
    · refine w.reg q hq ?_
      rcases hr with hr | hr
      · right; rw [h2]; exact hr
      · left; exact hr
    · rcases w.knd q hq with c | c | c | c | c
      · exact .inl c
      · exact .inr (.inl c)
      · exact .inr (.inr (.inl c))
      · exact .inr (.inr (.inr (.inr c)))
      · exact .inr (.inr (.inr (.inl (h2.symm.trans c))))
    · intro i hi; rw [List.mem_singleton.mp hi]; decide
    · obtain ⟨sl, a, b, pq, sa, ev, fl, L, V⟩ := m
      unfold locv
      simp only [tx_write]
      show (if nI p = nI q then b else if t.2.2.2.1 = nI q then a else _) = _
      by_cases c1 : nI p = nI q
      · rw [if_pos c1, ← c1, if_neg h, if_pos h2]
      · rw [if_neg c1, if_neg (show ¬ t.2.2.2.2 = nI q by rw [h2]; exact c1)]
        rfl
  rw [if_neg h2]
  have e5 : (tx_load (tx_keepB t) (nI p)).2.2.1 = t.2.2.1 ∧ (tx_load (tx_keepB t) (nI p)).2.2.2.1 = t.2.2.2.1 := by
    unfold tx_load tx_keepB
    repeat' split
    all_goals exact ⟨rfl, rfl⟩
  have e6 : (tx_load (tx_keepB t) (nI p)).2.1 = (tx_keepB t).2.1 := by
    unfold tx_load
    repeat' split
    all_goals rfl
  have e7 : (tx_keepB t).2.1.length = t.2.1.length ∧ (tx_keepB t).2.2.1 = t.2.2.1 := by
    unfold tx_keepB
    split
    · exact ⟨rfl, rfl⟩
    · exact ⟨nSet_len _ _ _, rfl⟩
  have e8 : ∀ q, q < t.2.1.length → nAt (tx_keepB t).2.1 (nI q) = if t.2.2.2.2 = nI q then 0 else nAt t.2.1 (nI q) := by
    intro q hq
    unfold tx_keepB
    split
    · rename_i c; rw [if_neg]; rw [c]; exact fun w => nI_ne_neg (by omega) w.symm
    · exact nAt_setq (xs := t.2.1) hq (by omega)
  rw [e5.1, e5.2, e6]
  have hlen : (nSet (tx_keepB t).2.1 (nI p) 1).length = t.2.1.length := by rw [nSet_len, e7.1]
  have kat : ∀ q, q < t.2.1.length → nAt (nSet (tx_keepB t).2.1 (nI p) 1) (nI q) = if nI p = nI q then 1 else if t.2.2.2.2 = nI q then 0 else nAt t.2.1 (nI q) := by
    intro q hq
    rw [nAt_setq (by rw [e7.1]; exact hq) (by rw [e7.1]; omega), e8 q hq]
  have hw : TW ((tx_load (tx_keepB t) (nI p)).1, nSet (tx_keepB t).2.1 (nI p) 1, t.2.2.1, nI p, t.2.2.2.1) := by
    refine ⟨by rw [hlen]; exact w.len, by rw [hlen]; exact w.d60, .inr ⟨p, by rw [hlen]; exact hp, rfl⟩, by rw [hlen]; exact w.iA, fun q => absurd q.symm h, fun q hq hr => ?_, fun q hq => ?_⟩
    all_goals rw [hlen] at hq
    all_goals rw [kat q hq]
    rotate_left
    · by_cases c1 : nI p = nI q
      · exact .inr (.inr (.inr (.inl c1)))
      rw [if_neg c1]
      by_cases c2 : t.2.2.2.2 = nI q
      · rw [if_pos c2]; exact .inl rfl
      rw [if_neg c2]
      rcases w.knd q hq with c | c | c | c | c
      · exact .inl c
      · exact .inr (.inl c)
      · exact .inr (.inr (.inl c))
      · exact .inr (.inr (.inr (.inr c)))
      · exact absurd c c2
    by_cases c1 : nI p = nI q
    · rw [if_pos c1]
    · rw [if_neg c1]
      rcases hr with hr | hr
      · exact absurd hr c1
      · have hr : t.2.2.2.1 = nI q := hr
        have c2 : ¬ t.2.2.2.2 = nI q := by
          intro c2
          have := w.ab (hr.trans c2.symm)
          rw [hr] at this
          exact nI_ne_neg (by omega) this
        rw [if_neg c2]
        exact w.reg q hq (.inl hr)
  refine ⟨hw, hlen, ?_⟩
  -- what was written, and what it does
  have hB : ∃ e1, (tx_keepB t).1 = t.1 ++ e1 ∧ quiet e1 ∧ ∀ m : MM, (mv e1 m).1 = (if t.2.2.2.2 = -1 then m.1 else nSet m.1 t.2.2.2.2 m.2.2.1) ∧ (mv e1 m).2 = m.2 := by
    unfold tx_keepB
    by_cases c : t.2.2.2.2 = -1
    · rw [if_pos c]
      exact ⟨[], by simp, (by intro i hi; cases hi), fun m => ⟨by rw [if_pos c]; rfl, rfl⟩⟩
    · rw [if_neg c]
      refine ⟨[(5, t.2.2.2.2)], rfl, (by intro i hi; rw [List.mem_singleton.mp hi]; simp only; decide), fun m => ⟨?_, ?_⟩⟩
      · rw [if_neg c]; obtain ⟨sl, a, b, pq, sa, ev, fl, L, V⟩ := m; rfl
      · obtain ⟨sl, a, b, pq, sa, ev, fl, L, V⟩ := m; rfl
  obtain ⟨e1, i1, q1, v1⟩ := hB
  have hL : ∃ i : II, (tx_load (tx_keepB t) (nI p)).1 = (tx_keepB t).1 ++ [i] ∧ (¬ i.1 < 1 ∧ i.1 < 7) ∧ ∀ m : MM, m_move m i.1 i.2 = (m.1, (if nAt t.2.1 (nI p) = 0 then nAt m.1 (nI p) else if nAt t.2.1 (nI p) = 2 then nAt t.2.2.1 (nI p) else mLa m.2.2.2.2.2.2.2.1 (nAt t.2.2.1 (nI p))), m.2.1, m.2.2.2) := by
    unfold tx_load
    rw [e8 p hp, if_neg h2, e7.2]
    by_cases c : nAt t.2.1 (nI p) = 0
    · rw [if_pos c]
      refine ⟨(3, nI p), rfl, (by simp only; decide), fun m => ?_⟩
      rw [if_pos c]
      obtain ⟨sl, a, b, pq, sa, ev, fl, L, V⟩ := m; rfl
    rw [if_neg c]
    by_cases c2 : nAt t.2.1 (nI p) = 2
    · rw [if_pos c2]
      refine ⟨(1, nAt t.2.2.1 (nI p)), rfl, (by simp only; decide), fun m => ?_⟩
      rw [if_neg c, if_pos c2]
      obtain ⟨sl, a, b, pq, sa, ev, fl, L, V⟩ := m; rfl
    · rw [if_neg c2]
      refine ⟨(2, nAt t.2.2.1 (nI p)), rfl, (by simp only; decide), fun m => ?_⟩
      rw [if_neg c, if_neg c2]
      obtain ⟨sl, a, b, pq, sa, ev, fl, L, V⟩ := m; rfl
  obtain ⟨i, i2, q2, v2⟩ := hL
  refine ⟨e1 ++ [i], by show (tx_load (tx_keepB t) (nI p)).1 = _; rw [i2, i1, List.append_assoc], quiet_app q1 (by intro j hj; rw [List.mem_singleton.mp hj]; exact q2), fun m hm q hq => ?_⟩
  rw [mv_app]
  have v3 : mv [i] (mv e1 m) = m_move (mv e1 m) i.1 i.2 := rfl
  rw [v3, v2]
  have hs : ∀ r, r < t.2.1.length → ¬ t.2.2.2.2 = nI r → nAt (mv e1 m).1 (nI r) = nAt m.1 (nI r) := by
    intro r hr hne
    rw [(v1 m).1]
    split
    · rfl
    · rw [nAt_setq (by omega) (by omega), if_neg hne]
  unfold locv
  simp only
  rw [kat q hq]
  by_cases c1 : nI p = nI q
  · have hqp : q = p := ((nI_eq (by omega) (by omega)).mp c1).symm
    subst hqp
    rw [if_pos rfl, if_neg h, if_neg h2, hs q hq h2, (v1 m).2]
  rw [if_neg c1]
  by_cases c2 : t.2.2.2.1 = nI q
  · rw [if_pos c2, if_pos c2, (v1 m).2]
  rw [if_neg c2, if_neg c2, if_neg c1]
  by_cases c3 : t.2.2.2.2 = nI q
  · rw [if_pos c3, if_pos c3, if_pos rfl, (v1 m).1, if_neg (by rw [c3]; exact nI_ne_neg (by omega)), nAt_setq (by omega) (by omega), if_pos c3]
  · rw [if_neg c3, if_neg c3, hs q hq c3, (v1 m).2]
theorem settle1_mv {t : TX} (w : TW t) {p : Nat} (hp : p < t.2.1.length) : Mv t (tx_settle1 t (nI p)) := by
  have h60 := w.d60
  unfold tx_settle1
  by_cases h : nAt t.2.1 (nI p) = 0
  · rw [if_pos h]; exact Mv.refl w
  rw [if_neg h]
  by_cases h2 : t.2.2.2.2 = nI p
  · rw [if_pos h2]
    have hA : ¬ t.2.2.2.1 = nI p := fun c => by
      have := w.ab (c.trans h2.symm)
      rw [c] at this
      exact nI_ne_neg (by omega) this
    refine ⟨⟨(by show t.2.2.1.length = (nSet t.2.1 (nI p) 0).length; rw [nSet_len]; exact w.len), (by show (nSet t.2.1 (nI p) 0).length ≤ 60; rw [nSet_len]; exact w.d60), ?_, .inl rfl, fun q => q, fun q hq hr => ?_, fun q hq => ?_⟩, nSet_len _ _ _, [(5, nI p)], rfl, ?_, fun m hm q hq => ?_⟩
    · show t.2.2.2.1 = -1 ∨ ∃ q, q < (nSet t.2.1 (nI p) 0).length ∧ t.2.2.2.1 = nI q
      rw [nSet_len]; exact w.iA
    · have hq : q < (nSet t.2.1 (nI p) 0).length := hq
      rw [nSet_len] at hq
      show nAt (nSet t.2.1 (nI p) 0) (nI q) = 1
      have hr : t.2.2.2.1 = nI q := hr.resolve_right (fun c => nI_ne_neg (by omega : q < 2 ^ 31) c.symm)
      rw [nAt_setq hq (by omega), if_neg (fun c => hA (hr.trans c.symm))]
      exact w.reg q hq (.inl hr)
    · have hq : q < (nSet t.2.1 (nI p) 0).length := hq
      rw [nSet_len] at hq
      show nAt (nSet t.2.1 (nI p) 0) (nI q) = 0 ∨ nAt (nSet t.2.1 (nI p) 0) (nI q) = 2 ∨ nAt (nSet t.2.1 (nI p) 0) (nI q) = 3 ∨ t.2.2.2.1 = nI q ∨ (-1 : Int32) = nI q
      rw [nAt_setq hq (by omega)]
      by_cases c1 : nI p = nI q
      · rw [if_pos c1]; exact .inl rfl
      rw [if_neg c1]
      rcases w.knd q hq with c | c | c | c | c
      · exact .inl c
      · exact .inr (.inl c)
      · exact .inr (.inr (.inl c))
      · exact .inr (.inr (.inr (.inl c)))
      · exact absurd (h2.symm.trans c) c1
    · intro i hi; rw [List.mem_singleton.mp hi]; simp only; decide
    · obtain ⟨sl, a, b, pq, sa, ev, fl, L, V⟩ := m
      have hm : sl.length = 60 := hm
      show (if t.2.2.2.1 = nI q then a else if (-1 : Int32) = nI q then b else if nAt (nSet t.2.1 (nI p) 0) (nI q) = 0 then nAt (nSet sl (nI p) b) (nI q) else if nAt (nSet t.2.1 (nI p) 0) (nI q) = 2 then nAt t.2.2.1 (nI q) else mLa L (nAt t.2.2.1 (nI q))) = (if t.2.2.2.1 = nI q then a else if t.2.2.2.2 = nI q then b else if nAt t.2.1 (nI q) = 0 then nAt sl (nI q) else if nAt t.2.1 (nI q) = 2 then nAt t.2.2.1 (nI q) else mLa L (nAt t.2.2.1 (nI q)))
      rw [nAt_setq hq (by omega), nAt_setq (by omega) (by omega), if_neg (fun c : (-1 : Int32) = nI q => nI_ne_neg (by omega) c.symm), h2]
      by_cases c1 : t.2.2.2.1 = nI q
      · rw [if_pos c1, if_pos c1]
      rw [if_neg c1, if_neg c1]
      by_cases c2 : nI p = nI q
      · simp only [if_pos c2]; rfl
      · simp only [if_neg c2]
  rw [if_neg h2]
  have h3 := toA_mv w hp
  obtain ⟨eA, eB⟩ := tx_toA_AB t (nI p)
  generalize tx_toA t (nI p) = u at *
  refine Mv.trans h3 ?_
  obtain ⟨wu, lu, -⟩ := h3
  have hpu : p < u.2.1.length := by rw [lu]; exact hp
  have hlu : u.2.1.length ≤ 60 := wu.d60
  have hB : ¬ u.2.2.2.2 = nI p := fun c => by
    have := wu.ab (eA.trans c.symm)
    rw [eA] at this
    exact nI_ne_neg (by omega) this
  refine ⟨⟨(by show u.2.2.1.length = (nSet u.2.1 (nI p) 0).length; rw [nSet_len]; exact wu.len), (by show (nSet u.2.1 (nI p) 0).length ≤ 60; rw [nSet_len]; exact wu.d60), .inl rfl, ?_, fun _ => rfl, fun q hq hr => ?_, fun q hq => ?_⟩, nSet_len _ _ _, [(4, nI p)], rfl, ?_, fun m hm q hq => ?_⟩
  · show u.2.2.2.2 = -1 ∨ ∃ q, q < (nSet u.2.1 (nI p) 0).length ∧ u.2.2.2.2 = nI q
    rw [nSet_len]; exact wu.iB
  · have hq : q < (nSet u.2.1 (nI p) 0).length := hq
    rw [nSet_len] at hq
    show nAt (nSet u.2.1 (nI p) 0) (nI q) = 1
    have hr : u.2.2.2.2 = nI q := hr.resolve_left (fun c => nI_ne_neg (by omega : q < 2 ^ 31) c.symm)
    rw [nAt_setq hq (by omega), if_neg (fun c => hB (hr.trans c.symm))]
    exact wu.reg q hq (.inr hr)
  · have hq : q < (nSet u.2.1 (nI p) 0).length := hq
    rw [nSet_len] at hq
    show nAt (nSet u.2.1 (nI p) 0) (nI q) = 0 ∨ nAt (nSet u.2.1 (nI p) 0) (nI q) = 2 ∨ nAt (nSet u.2.1 (nI p) 0) (nI q) = 3 ∨ (-1 : Int32) = nI q ∨ u.2.2.2.2 = nI q
    rw [nAt_setq hq (by omega)]
    by_cases c1 : nI p = nI q
    · rw [if_pos c1]; exact .inl rfl
    rw [if_neg c1]
    rcases wu.knd q hq with c | c | c | c | c
    · exact .inl c
    · exact .inr (.inl c)
    · exact .inr (.inr (.inl c))
    · exact absurd (eA.symm.trans c) c1
    · exact .inr (.inr (.inr (.inr c)))
  · intro i hi; rw [List.mem_singleton.mp hi]; simp only; decide
  · obtain ⟨sl, a, b, pq, sa, ev, fl, L, V⟩ := m
    have hm : sl.length = 60 := hm
    show (if (-1 : Int32) = nI q then a else if u.2.2.2.2 = nI q then b else if nAt (nSet u.2.1 (nI p) 0) (nI q) = 0 then nAt (nSet sl (nI p) a) (nI q) else if nAt (nSet u.2.1 (nI p) 0) (nI q) = 2 then nAt u.2.2.1 (nI q) else mLa L (nAt u.2.2.1 (nI q))) = (if u.2.2.2.1 = nI q then a else if u.2.2.2.2 = nI q then b else if nAt u.2.1 (nI q) = 0 then nAt sl (nI q) else if nAt u.2.1 (nI q) = 2 then nAt u.2.2.1 (nI q) else mLa L (nAt u.2.2.1 (nI q)))
    rw [nAt_setq hq (by omega), nAt_setq (by omega) (by omega), if_neg (fun c : (-1 : Int32) = nI q => nI_ne_neg (by omega) c.symm), eA]
    by_cases c2 : nI p = nI q
    · have c3 : ¬ u.2.2.2.2 = nI q := by rw [← c2]; exact hB
      simp only [if_pos c2, if_neg c3, if_true]
    · simp only [if_neg c2]
