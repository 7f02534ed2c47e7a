/-! HOW MUCH IS WRITTEN: each value that is in no slot yet has paid for its way -/
def ns (l : List Int32) : Nat := l.countP fun k => decide (¬ k = 0)
def cs (t : TX) : Nat := t.1.length + 3 * ns t.2.1
theorem ns_set {l : List Int32} {q : Nat} (hq : q < l.length) (hl : l.length < 2 ^ 31) (v : Int32) : ns (nSet l (nI q) v) + (if nAt l (nI q) = 0 then 0 else 1) = ns l + (if v = 0 then 0 else 1) := by
  have e1 : nSet l (nI q) v = l.set q v := by unfold nSet; rw [if_neg (nI_pos (by omega)), nI_clamp (by omega)]
  have e2 : nAt l (nI q) = l[q] := by rw [nAt_nat (by omega), List.getD_eq_getElem?_getD, List.getElem?_eq_getElem hq]; rfl
  rw [e1, e2]
  unfold ns
  clear e1 e2 hl
  induction l generalizing q with
  | nil => cases hq
  | cons a l ih =>
    cases q with
    | zero =>
      simp only [List.set_cons_zero, List.countP_cons, List.getElem_cons_zero, decide_eq_true_eq]
      by_cases h1 : a = 0 <;> by_cases h2 : v = 0 <;> simp [h1, h2] <;> omega
    | succ q =>
      have := ih (q := q) (by simpa using hq)
      simp only [List.set_cons_succ, List.countP_cons, List.getElem_cons_succ, decide_eq_true_eq] at this ⊢
      omega
theorem ns_take (l : List Int32) (n : Nat) : ns (l.take n) ≤ ns l := (List.take_sublist n l).countP_le
theorem ns_app (l : List Int32) (v : Int32) : ns (l ++ [v]) ≤ ns l + 1 := by
  unfold ns
  rw [List.countP_append]
  have : List.countP (fun k => decide (¬ k = 0)) [v] ≤ 1 := List.countP_le_length
  omega
theorem ns_rep (d : Nat) : ns (List.replicate d 0) = 0 := by
  unfold ns
  rw [List.countP_replicate]
  simp
section CST
variable {t : TX} {d : Nat}
theorem cs_write (n a : Int32) : cs (tx_write t n a) = cs t + 1 := by
  unfold cs tx_write
  simp only [List.length_append, List.length_singleton]
  omega
theorem cs_keepB (w : TW t) : cs (tx_keepB t) ≤ cs t + 1 := by
  have h60 := w.d60
  unfold tx_keepB
  split
  · omega
  · rename_i c
    obtain ⟨p, hp, e⟩ := w.iB.resolve_left c
    have := ns_set hp (by omega) 0
    unfold cs tx_write
    simp only [List.length_append, List.length_singleton]
    rw [e]
    simp only [if_true] at this
    omega
theorem cs_toA (w : TW t) {p : Nat} (hp : p < t.2.1.length) : cs (tx_toA t (nI p)) ≤ cs t + 5 ∧ (¬ nAt t.2.1 (nI p) = 0 → cs (tx_toA t (nI p)) ≤ cs t + 2) := by
  have h60 := w.d60
  unfold tx_toA
  by_cases h : t.2.2.2.1 = nI p
  · rw [if_pos h]; omega
  rw [if_neg h]
  by_cases h2 : t.2.2.2.2 = nI p
  · rw [if_pos h2]
    have : cs ((tx_write t 6 0).1, (tx_write t 6 0).2.1, (tx_write t 6 0).2.2.1, nI p, (tx_write t 6 0).2.2.2.1) = cs t + 1 := cs_write (t := t) 6 0
    omega
  rw [if_neg h2]
  have k1 := cs_keepB w
  have e7 : (tx_keepB t).2.1.length = t.2.1.length := by
    unfold tx_keepB
    split
    · rfl
    · exact nSet_len _ _ _
  have e8 : nAt (tx_keepB t).2.1 (nI p) = nAt t.2.1 (nI p) := by
    unfold tx_keepB
    split
    · rfl
    · show nAt (nSet t.2.1 t.2.2.2.2 0) (nI p) = _
      rw [nAt_setq hp (by omega), if_neg h2]
  have e6 : (tx_load (tx_keepB t) (nI p)).2.1 = (tx_keepB t).2.1 ∧ (tx_load (tx_keepB t) (nI p)).1.length = (tx_keepB t).1.length + 1 := by
    unfold tx_load
    split
    · exact ⟨rfl, by simp [tx_write]⟩
    · exact ⟨rfl, by simp [tx_write]⟩
  have k2 := ns_set (l := (tx_keepB t).2.1) (q := p) (by rw [e7]; exact hp) (by rw [e7]; omega) 1
  rw [e8, if_neg (show ¬ (1 : Int32) = 0 by decide)] at k2
  have k3 : cs ((tx_load (tx_keepB t) (nI p)).1, nSet (tx_load (tx_keepB t) (nI p)).2.1 (nI p) 1, (tx_load (tx_keepB t) (nI p)).2.2.1, nI p, (tx_load (tx_keepB t) (nI p)).2.2.2.1) = (tx_keepB t).1.length + 1 + 3 * ns (nSet (tx_keepB t).2.1 (nI p) 1) := by
    unfold cs
    simp only
    rw [e6.1, e6.2]
  rw [k3]
  unfold cs at k1 ⊢
  constructor
  · split at k2 <;> omega
  · intro hz
    rw [if_neg hz] at k2
    omega
theorem cs_settle1 (w : TW t) {p : Nat} (hp : p < t.2.1.length) : cs (tx_settle1 t (nI p)) ≤ cs t := by
  have h60 := w.d60
  unfold tx_settle1
  by_cases h : nAt t.2.1 (nI p) = 0
  · rw [if_pos h]; omega
  rw [if_neg h]
  by_cases h2 : t.2.2.2.2 = nI p
  · rw [if_pos h2]
    have k := ns_set hp (by omega) 0
    rw [if_neg h] at k
    simp only [if_true] at k
    unfold cs tx_write
    simp only [List.length_append, List.length_singleton]
    omega
  rw [if_neg h2]
  have k1 := (cs_toA w hp).2 h
  have m := toA_mv w hp
  have a := (tx_toA_AB t (nI p)).1
  have hk : nAt (tx_toA t (nI p)).2.1 (nI p) = 1 := m.1.reg p (by rw [m.2.1]; exact hp) (.inl a)
  have k := ns_set (l := (tx_toA t (nI p)).2.1) (q := p) (by rw [m.2.1]; exact hp) (by rw [m.2.1]; omega) 0
  rw [hk, if_neg (show ¬ (1 : Int32) = 0 by decide)] at k
  simp only [if_true] at k
  unfold cs at k1 ⊢
  simp only [tx_write, List.length_append, List.length_singleton]
  omega
theorem cs_settle (n : Nat) : ∀ (i : Nat) (t : TX), TW t → i + n ≤ t.2.1.length → cs (tx_settle n i t) ≤ cs t := by
  induction n with
  | zero => intro i t _ _; exact Nat.le_refl _
  | succ n ih =>
    intro i t w hi
    have m := settle1_mv w (p := i) (by omega)
    have h1 := cs_settle1 w (p := i) (by omega)
    have h2 := ih (i + 1) _ m.1 (by rw [m.2.1]; omega)
    show cs (tx_settle n (i + 1) (tx_settle1 t (nI i))) ≤ _
    omega
theorem cs_sl (k : Int32) (n : Nat) : ∀ (i : Nat) (t : TX), TW t → i + n ≤ t.2.1.length → cs (tx_sl k n i t) ≤ cs t := by
  induction n with
  | zero => intro i t _ _; exact Nat.le_refl _
  | succ n ih =>
    intro i t w hi
    rw [tx_sl]
    by_cases c : nAt t.2.1 (nI i) = 3 ∧ nAt t.2.2.1 (nI i) = k
    · rw [if_pos c, show i + 1 - i = 1 by omega]
      have m := (settle_mv 1 i t w (by omega)).1
      have h1 := cs_settle 1 i t w (by omega)
      have h2 := ih (i + 1) _ m.1 (by rw [m.2.1]; omega)
      omega
    · rw [if_neg c]
      exact ih (i + 1) t w (by omega)
theorem cs_meet (h : TL t (d + 2)) (m : Bool) : cs (tx_meet t m).1 ≤ cs t + 15 := by
  have ey : nI t.2.1.length - 1 = nI (d + 1) := by rw [h.2]; exact nI_pred (d + 1)
  have ex : nI (d + 1) - 1 = nI d := nI_pred d
  have st : ∀ (u : TX), TL u (d + 2) → ∀ p, p < d + 2 → cs (tx_toA u (nI p)) ≤ cs u + 5 := fun u hu p hp => (cs_toA hu.1 (by rw [hu.2]; exact hp)).1
  have a1 := st t h d (by omega)
  have t1 := tl_toA h (p := d) (by omega)
  have a2 := st _ t1 (d + 1) (by omega)
  have b1 := st t h (d + 1) (by omega)
  have u1 := tl_toA h (p := d + 1) (by omega)
  have b2 := st _ u1 d (by omega)
  have u2 := tl_toA u1 (p := d) (by omega)
  have b3 := st _ u2 (d + 1) (by omega)
  unfold tx_meet
  simp only [ey, ex]
  by_cases c1 : t.2.2.2.1 = nI (d + 1) ∧ t.2.2.2.2 = nI d
  · rw [if_pos c1]; exact Nat.le_add_right _ _
  rw [if_neg c1]
  by_cases c2 : ¬ t.2.2.2.1 = nI (d + 1) ∧ ¬ t.2.2.2.2 = nI (d + 1)
  · rw [if_pos c2]
    show cs (tx_toA (tx_toA t (nI d)) (nI (d + 1))) ≤ _
    omega
  rw [if_neg c2]
  by_cases c3 : t.2.2.2.1 = nI d
  · rw [if_pos c3]
    cases m with
    | true => exact Nat.le_add_right _ _
    | false =>
      show cs (tx_toA t (nI (d + 1))) ≤ _
      omega
  · rw [if_neg c3]
    cases m with
    | true =>
      show cs (tx_toA (tx_toA t (nI (d + 1))) (nI d)) ≤ _
      omega
    | false =>
      show cs (tx_toA (tx_toA (tx_toA t (nI (d + 1))) (nI d)) (nI (d + 1))) ≤ _
      omega
theorem cs_drop (c : Int32) : cs (tx_drop t c) ≤ cs t := by
  unfold cs tx_drop p_c nCut
  simp only
  have := ns_take t.2.1 (nI t.2.1.length - c).toNatClampNeg
  omega
theorem cs_row (x : Int32) : cs (tx_row t x) ≤ cs t := by
  unfold cs tx_row
  simp only
  rw [ns_rep]
  omega
theorem cs_lay (k e : Int32) : cs (tx_lay t k e) ≤ cs t + 3 := by
  unfold cs tx_lay
  simp only
  have := ns_app t.2.1 k
  omega
theorem cs_leave : cs (tx_leave t) ≤ cs t + 3 := by
  have h1 := cs_drop (t := t) 2
  have h2 := cs_lay (t := tx_drop t 2) 1 0
  have : cs (tx_leave t) = cs (tx_lay (tx_drop t 2) 1 0) := rfl
  omega
theorem cs_top (h : TL t (d + 1)) (n : Int32) : cs (tx_top t n) ≤ cs t + 6 := by
  unfold tx_top
  have e1 : nI t.2.1.length - 1 = nI d := by rw [h.2]; exact nI_pred d
  rw [e1, cs_write]
  have := (cs_toA h.1 (p := d) (by rw [h.2]; omega)).1
  omega
theorem cs_goIf (h : TL t (d + 1)) (n l : Int32) : cs (tx_goIf t n l) ≤ cs t + 6 := by
  unfold tx_goIf
  have e0 : t.2.1.length - 1 - 0 = d := by rw [h.2]; omega
  have e1 : nI t.2.1.length - 1 = nI d := by rw [h.2]; exact nI_pred d
  rw [e0, e1]
  have h1 := cs_settle d 0 t h.1 (by rw [h.2]; omega)
  have h2 := tl_settle h (n := d) (i := 0) (by omega)
  have h3 := (cs_toA h2.1 (p := d) (by rw [h2.2]; omega)).1
  have h4 := cs_drop (t := tx_write (tx_toA (tx_settle d 0 t) (nI d)) n l) 1
  rw [cs_write] at h4
  omega
theorem cs_case (h : TL t (d + 1)) (k l : Int32) : cs (tx_case t k l) ≤ cs t + 7 := by
  unfold tx_case
  have e0 : t.2.1.length - 1 - 0 = d := by rw [h.2]; omega
  have e1 : nI t.2.1.length - 1 = nI d := by rw [h.2]; exact nI_pred d
  rw [e0, e1]
  have h1 := cs_settle d 0 t h.1 (by rw [h.2]; omega)
  have h2 := tl_settle h (n := d) (i := 0) (by omega)
  have h3 := (cs_toA h2.1 (p := d) (by rw [h2.2]; omega)).1
  have h4 := cs_write (t := tx_toA (tx_settle d 0 t) (nI d)) 1 k
  rw [cs_write]
  have h5 : cs ((tx_write (tx_toA (tx_settle d 0 t) (nI d)) 1 k).1, (tx_write (tx_toA (tx_settle d 0 t) (nI d)) 1 k).2.1, (tx_write (tx_toA (tx_settle d 0 t) (nI d)) 1 k).2.2.1, -1, nI d) = cs (tx_write (tx_toA (tx_settle d 0 t) (nI d)) 1 k) := rfl
  rw [h5]
  omega
theorem cs_cgo (h : TL t (d + 2)) (k c l : Int32) : cs (tx_cgo t k c l) ≤ cs t + 16 := by
  unfold tx_cgo
  have e0 : t.2.1.length - 2 - 0 = d := by rw [h.2]; omega
  rw [e0]
  have h1 := cs_settle d 0 t h.1 (by rw [h.2]; omega)
  have h2 := tl_settle h (n := d) (i := 0) (by omega)
  have h3 := cs_meet h2 true
  have h4 := cs_drop (t := tx_write (tx_meet (tx_settle d 0 t) true).1 (23 + (if c = 11 then a_opp (if (tx_meet (tx_settle d 0 t) true).2 = true then a_mir k else k) else (if (tx_meet (tx_settle d 0 t) true).2 = true then a_mir k else k))) l) 2
  rw [cs_write] at h4
  exact Nat.le_trans h4 (by omega)
theorem cs_byte (h : TL t (d + 3)) : cs (tx_byte t) ≤ cs t + 16 := by
  unfold tx_byte
  have e0 : t.2.1.length - 3 + 1 - (t.2.1.length - 3) = 1 := by omega
  have e1 : t.2.1.length - 3 = d := by rw [h.2]; omega
  rw [e0, e1]
  have h1 := cs_settle 1 d t h.1 (by rw [h.2]; omega)
  have h2 := tl_settle h (n := 1) (i := d) (by omega)
  have h3 := cs_meet (d := d + 1) h2 false
  have h4 := cs_drop (t := tx_write (tx_meet (tx_settle 1 d t) false).1 16 (nI t.2.1.length - 3)) 3
  rw [cs_write] at h4
  omega
theorem cs_store (h : TL t (d + 1)) (k : Int32) : cs (tx_store t k) ≤ cs t + 6 := by
  unfold tx_store
  have e0 : t.2.1.length - 1 = d := by rw [h.2]; omega
  rw [e0]
  have h1 := cs_sl k d 0 t h.1 (by rw [h.2]; omega)
  have m := (sl_mv k d 0 t h.1 (by rw [h.2]; omega)).1
  have h3 := (cs_toA m.1 (p := d) (by rw [m.2.1, h.2]; omega)).1
  have h4 := cs_drop (t := tx_write (tx_toA (tx_sl k d 0 t) (nI d)) 7 k) 1
  rw [cs_write] at h4
  omega
theorem cs_keep (h : TL t (d + 2)) (k : Int32) : cs (tx_keep t k) ≤ cs t + 16 := by
  have h3 := cs_meet h true
  unfold tx_keep
  by_cases c : (tx_meet t true).2 = true
  · simp only [if_pos c]
    have h4 := cs_write (t := (tx_meet t true).1) 13 (a_mir k)
    have h5 : ∀ (u : TX) (x y : Int32), cs (u.1, u.2.1, u.2.2.1, x, y) = cs u := fun _ _ _ => rfl
    rw [h5]
    omega
  · simp only [if_neg c]
    have h4 := cs_write (t := (tx_meet t true).1) 14 k
    have h5 : ∀ (u : TX) (x y : Int32), cs (u.1, u.2.1, u.2.2.1, x, y) = cs u := fun _ _ _ => rfl
    rw [h5]
    omega
end CST
