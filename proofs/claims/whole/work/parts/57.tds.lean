/-! HOW LONG THE TRANSLATOR'S ROW is behind each instruction -/
section TDS
variable {t : TX} {d : Nat}
theorem ex_rel (w : TW t) : ∃ σ m, Rel t σ m :=
  ⟨(fun j => locv t (List.replicate 60 0, 0, 0, 0, -1, 0, 0, fun _ => 0, fun _ => 0) (t.2.1.length - 1 - j), none, fun _ => 0, fun _ => 0, 0), (List.replicate 60 0, 0, 0, 0, -1, 0, 0, fun _ => 0, fun _ => 0), w,
    ⟨rfl, by simp, rfl, rfl, rfl, rfl, rfl⟩, fun q hq => by
      show _ = locv t _ (t.2.1.length - 1 - (t.2.1.length - 1 - q))
      rw [show t.2.1.length - 1 - (t.2.1.length - 1 - q) = q by omega]⟩
abbrev TL (t : TX) (d : Nat) : Prop := TW t ∧ t.2.1.length = d
theorem tl_write (h : TL t d) (n a : Int32) : TL (tx_write t n a) d := ⟨TW_img h.1 _, h.2⟩
theorem tl_toA (h : TL t d) {p : Nat} (hp : p < d) : TL (tx_toA t (nI p)) d := by
  have := toA_mv h.1 (p := p) (by rw [h.2]; exact hp)
  exact ⟨this.1, by rw [this.2.1, h.2]⟩
theorem tl_settle (h : TL t d) {n i : Nat} (hp : i + n ≤ d) : TL (tx_settle n i t) d := by
  have := (settle_mv n i t h.1 (by rw [h.2]; exact hp)).1
  exact ⟨this.1, by rw [this.2.1, h.2]⟩
theorem tl_meet (h : TL t (d + 2)) (m : Bool) : TL (tx_meet t m).1 (d + 2) := by
  have := (meet_mv h.1 h.2 m).1
  exact ⟨this.1, by rw [this.2.1, h.2]⟩
theorem tl_drop {c : Nat} (h : TL t (d + c)) : TL (tx_drop t (nI c)) d := by
  have := drop_tw h.1 h.2
  exact ⟨this.1, this.2.1⟩
theorem tl_row (t : TX) {d : Nat} (hd : d ≤ 60) : TL (tx_row t (nI d)) d := by
  rw [tx_row_eq _ (by omega)]
  exact ⟨tw_row _ hd, by simp⟩
theorem tl_lay (h : TL t d) (hd : d < 60) {kd de : Int32} (hk : kd = 2 ∨ kd = 3) : TL (tx_lay t kd de) (d + 1) :=
  ⟨(tw_lay h.1 (by rw [h.2]; exact hd) hk).1, by simp [tx_lay, h.2]⟩
theorem tl_leave (m : Bool) (h : TL t (d + 2)) (n a : Int32) : TL (tx_leave (tx_write (tx_meet t m).1 n a)) (d + 1) := by
  obtain ⟨hm, hlu, hA, hB, -⟩ := meet_all (m0 := m) h.2 h.1
  obtain ⟨σ, μ, hR⟩ := ex_rel hm.1
  have h1 := rel_leave (σ' := (s_psh (s_pop σ.st 2) μ.2.1, none, σ.L, σ.V, σ.f)) (m' := μ) (v := μ.2.1) hR hlu hA hB ⟨rfl, hR.2.1.sl, hR.2.1.sa, hR.2.1.ev, hR.2.1.f, hR.2.1.L, hR.2.1.V⟩ rfl rfl rfl rfl ((tx_meet t m).1.1 ++ [(n, a)])
  refine ⟨h1.1, ?_⟩
  have h2 := drop_tw (TW_img hm.1 ((tx_meet t m).1.1 ++ [(n, a)])) (c := 2) (d := d) hlu
  show ((tx_drop (tx_write (tx_meet t m).1 n a) 2).2.1 ++ [1]).length = d + 1
  rw [List.length_append]
  have h3 : (tx_drop (tx_write (tx_meet t m).1 n a) 2).2.1.length = d := h2.2.1
  rw [h3]
  rfl
theorem tl_keep (h : TL t (d + 2)) (k : Int32) : TL (tx_keep t k) (d + 2) := by
  obtain ⟨hm, hlu, hA, hB, -⟩ := meet_all (m0 := true) h.2 h.1
  unfold tx_keep
  generalize tx_meet t true = u at *
  have h60 := hm.1.d60
  have e1 : nI (d + 2) - 1 = nI (d + 1) := nI_pred (d + 1)
  have e2 : nI (d + 1) - 1 = nI d := nI_pred d
  have hxy : ¬ nI (d + 1) = nI d := fun c => by have := (nI_eq (by omega) (by omega)).mp c; omega
  have hw : ∀ x : List II, TW (x, u.1.2.1, u.1.2.2.1, nI (d + 1), nI d) := by
    intro x
    have wu := hm.1
    have rg : ∀ p, p < u.1.2.1.length → (p = d + 1 ∨ p = d) → nAt u.1.2.1 (nI p) = 1 := by
      intro p hp he
      refine wu.reg p hp ?_
      have hab := wu.ab
      have n1 : ¬ nI d = -1 := nI_ne_neg (by omega)
      have n2 : ¬ nI (d + 1) = -1 := nI_ne_neg (by omega)
      rcases hA with hA | hA <;> rcases hB with hB | hB
      · exact absurd (hA.symm.trans (hab (hA.trans hB.symm))) n1
      · rcases he with rfl | rfl
        · exact .inr hB
        · exact .inl hA
      · rcases he with rfl | rfl
        · exact .inl hA
        · exact .inr hB
      · exact absurd (hA.symm.trans (hab (hA.trans hB.symm))) n2
    refine ⟨wu.len, wu.d60, .inr ⟨d + 1, by show d + 1 < u.1.2.1.length; omega, rfl⟩, .inr ⟨d, by show d < u.1.2.1.length; omega, rfl⟩, fun c => absurd c hxy, fun p hp hr => ?_, fun p hp => ?_⟩
    · have hp : p < u.1.2.1.length := hp
      refine rg p hp ?_
      rcases hr with hr | hr
      · left; have := (nI_eq (by omega) (by omega)).mp hr; omega
      · right; have := (nI_eq (by omega) (by omega)).mp hr; omega
    · have hp : p < u.1.2.1.length := hp
      rcases wu.knd p hp with c | c | c | c | c
      · exact .inl c
      · exact .inr (.inl c)
      · exact .inr (.inr (.inl c))
      · rcases hA with h | h <;> rw [h] at c
        · exact .inr (.inr (.inr (.inr c)))
        · exact .inr (.inr (.inr (.inl c)))
      · rcases hB with h | h <;> rw [h] at c
        · exact .inr (.inr (.inr (.inr c)))
        · exact .inr (.inr (.inr (.inl c)))
  by_cases c : u.2 = true
  · simp only [if_pos c]
    have e3 : (tx_write u.1 13 (a_mir k)).2.1.length = d + 2 := hlu
    rw [e3, e1, e2]
    exact ⟨hw _, hlu⟩
  · simp only [if_neg c]
    have e3 : (tx_write u.1 14 k).2.1.length = d + 2 := hlu
    rw [e3, e1, e2]
    exact ⟨hw _, hlu⟩
theorem tl_case (h : TL t (d + 1)) (k l : Int32) : TL (tx_case t k l) (d + 1) := by
  unfold tx_case
  have e0 : t.2.1.length - 1 - 0 = d := by rw [h.2]; omega
  have e1 : nI t.2.1.length - 1 = nI d := by rw [h.2]; exact nI_pred d
  rw [e0, e1]
  obtain ⟨m1, f1⟩ := settle_mv d 0 t h.1 (by rw [h.2]; omega)
  have l1 := m1.2.1
  have hd := h.2
  have m2 := toA_mv m1.1 (p := d) (by rw [l1, hd]; omega)
  have l2 := m2.2.1
  have hA := (tx_toA_AB (tx_settle d 0 t) (nI d)).1
  have s1 : ∀ q, q < d → nAt (tx_toA (tx_settle d 0 t) (nI d)).2.1 (nI q) = 0 := fun q hq => toA_slot m1.1 (by rw [l1, hd]; omega) (by rw [l1, hd]; omega) (by omega) (f1 q (by rw [hd]; omega) (.inl ⟨by omega, by omega⟩))
  generalize tx_toA (tx_settle d 0 t) (nI d) = u at *
  have hlu : u.2.1.length = d + 1 := by rw [l2, l1, hd]
  have h60 := m2.1.d60
  have wu := m2.1
  refine ⟨TW_img (t := (([] : List II), u.2.1, u.2.2.1, -1, nI d)) ?_ _, hlu⟩
  refine ⟨wu.len, wu.d60, .inl rfl, .inr ⟨d, by show d < u.2.1.length; omega, rfl⟩, fun _ => rfl, fun p hp hr => ?_, fun p hp => ?_⟩
  · have hp : p < u.2.1.length := hp
    have hr : nI d = nI p := hr.resolve_left (fun c => nI_ne_neg (by omega : p < 2 ^ 31) c.symm)
    exact wu.reg p hp (.inl (hA.trans hr))
  · have hp : p < u.2.1.length := hp
    rcases Nat.lt_or_ge p d with c | c
    · exact .inl (s1 p c)
    · have e : p = d := by omega
      subst e
      exact .inr (.inr (.inr (.inr rfl)))
theorem tl_top (h : TL t (d + 1)) (n : Int32) : TL (tx_top t n) (d + 1) := by
  unfold tx_top
  have e1 : nI t.2.1.length - 1 = nI d := by rw [h.2]; exact nI_pred d
  rw [e1]
  exact tl_write (tl_toA h (by omega)) _ _
theorem tl_goIf (h : TL t (d + 1)) (n l : Int32) : TL (tx_goIf t n l) d := by
  unfold tx_goIf
  have e0 : t.2.1.length - 1 - 0 = d := by rw [h.2]; omega
  have e1 : nI t.2.1.length - 1 = nI d := by rw [h.2]; exact nI_pred d
  rw [e0, e1]
  exact tl_drop (c := 1) (tl_write (tl_toA (tl_settle h (by omega)) (by omega)) _ _)
theorem tl_byte (h : TL t (d + 3)) : TL (tx_byte t) d := by
  unfold tx_byte
  have e0 : t.2.1.length - 3 + 1 - (t.2.1.length - 3) = 1 := by omega
  have e1 : t.2.1.length - 3 = d := by rw [h.2]; omega
  rw [e0, e1]
  exact tl_drop (c := 3) (tl_write (tl_meet (d := d + 1) (tl_settle h (by omega)) false) _ _)
theorem tl_cgo (h : TL t (d + 2)) (k c l : Int32) : TL (tx_cgo t k c l) d := by
  unfold tx_cgo
  have e0 : t.2.1.length - 2 - 0 = d := by rw [h.2]; omega
  rw [e0]
  exact tl_drop (c := 2) (tl_write (tl_meet (tl_settle h (by omega)) true) _ _)
theorem tl_store (h : TL t (d + 1)) (k : Int32) : TL (tx_store t k) d := by
  unfold tx_store
  have e0 : t.2.1.length - 1 = d := by rw [h.2]; omega
  rw [e0]
  have := (sl_mv k d 0 t h.1 (by rw [h.2]; omega)).1
  exact tl_drop (c := 1) (tl_write (tl_toA (d := d + 1) ⟨this.1, by rw [this.2.1, h.2]⟩ (by omega)) _ _)
end TDS
