/-! THE STATE OF AN OBJECT by offsets from its base address z: a Numbers is a list, everything else a cell -/
abbrev xC : Type := List Int32 ⊕ mx_C
abbrev xS : Type := Nat → Option xC
def xu (S : xS) (k : Nat) (c : xC) : xS := fun q => if q = k then some c else S q
theorem xu_self (S : xS) (k : Nat) (c : xC) : xu S k c k = some c := by simp [xu]
theorem xu_ne (S : xS) {k q : Nat} (c : xC) (h : q ≠ k) : xu S k c q = S q := by simp [xu, h]
/-- the three static arrays -/
def x_stat : Nat → Nat × (Nat → Int32)
  | 0 => (21, fun j => ([-1, 15, 15, -1, -1, -1, -1, 10, 5, 5, 99, 99, 99, 99, -1, -1, -1, -1, -1, -1, -1] : List Int32).getD j 0)
  | 1 => (21, fun j => ([0, 0, 1, 1, 2, 1, 1, 2, 2, 2, 0, 1, 1, 0, 1, 0, 1, 0, 1, 2, 3] : List Int32).getD j 0)
  | _ => (21, fun j => ([1, 1, 0, 1, 0, 1, 1, 1, 1, 2, 0, 0, 0, 0, 0, 0, 0, 0, 1, 1, 0] : List Int32).getD j 0)
def xG (g : mx_G) (h : mx_H) : Prop := h.2.2.2 = g ∧ ∀ k, k < 3 → g.1 k < h.1 ∧ mx_get h (g.1 k) = none ∧ g.2 (g.1 k) = some (x_stat k)
/-- e: how often a Numbers' row was doubled; ar: where its row lies; f: what is in it -/
def xJ (z : Nat) (NK : List Nat) (c : Nat × Nat) (g : mx_G) (h : mx_H) (S : xS) (e ar : Nat → Nat) (f : Nat → Nat → Int32) : Prop :=
  h.1 = c.1 + (NK.map e).sum ∧ h.2.1 = c.2 + (NK.map fun k => 32 * 2 ^ e k - 32).sum ∧ xG g h ∧
  (∀ k x, S k = some (.inr x) → mx_get h (z + k) = some x) ∧
  (∀ k xs, S k = some (.inl xs) → k ∈ NK ∧ mx_get h (z + k) = some (.inr (6, [.ref (ar k), .int (nI xs.length)])) ∧ mx_get h (ar k) = some (.inl (false, 16 * 2 ^ e k, f k)) ∧ xs.length ≤ 16 * 2 ^ e k ∧ e k ≤ 13 ∧ (∀ i v, xs[i]? = some v → f k i = v) ∧ ∀ j, (S j).isSome = true → ar k ≠ z + j) ∧
  (∀ k k' xs xs', S k = some (.inl xs) → S k' = some (.inl xs') → ar k = ar k' → k = k') ∧
  ∀ q, h.1 ≤ q → mx_get h q = none
def xD (z : Nat) (NK : List Nat) (c : Nat × Nat) (S : xS) : Prop := NK.Nodup ∧ (∀ k ∈ NK, z + k < c.1) ∧ ∀ j, (S j).isSome = true → z + j < c.1
def xI (z : Nat) (NK : List Nat) (c : Nat × Nat) (g : mx_G) (h : mx_H) (S : xS) : Prop := xD z NK c S ∧ ∃ e ar f, xJ z NK c g h S e ar f
theorem xD.up {z : Nat} {NK : List Nat} {c : Nat × Nat} {S : xS} (hD : xD z NK c S) {k : Nat} {x y : xC} (hk : S k = some x) : xD z NK c (xu S k y) := by
  refine ⟨hD.1, hD.2.1, fun j hj => hD.2.2 j ?_⟩
  by_cases hjk : j = k
  · rw [hjk, hk]; rfl
  · rw [xu_ne _ _ hjk] at hj; exact hj
theorem xI.obj {z : Nat} {NK : List Nat} {c : Nat × Nat} {g : mx_G} {h : mx_H} {S : xS} (hI : xI z NK c g h S) {k : Nat} {x : mx_C} (hk : S k = some (.inr x)) : mx_get h (z + k) = some x := by
  obtain ⟨-, e, ar, f, -, -, -, h4, -⟩ := hI
  exact h4 k x hk
theorem xG.keep {g : mx_G} {h h' : mx_H} (hG : xG g h) (h1 : h'.1 = h.1) (h2 : h'.2.2.2 = h.2.2.2) (h3 : ∀ q, mx_get h q = none → mx_get h' q = none) : xG g h' :=
  ⟨h2.trans hG.1, fun k hk => ⟨by rw [h1]; exact (hG.2 k hk).1, h3 _ (hG.2 k hk).2.1, (hG.2 k hk).2.2⟩⟩
theorem xI.set {z : Nat} {NK : List Nat} {c : Nat × Nat} {g : mx_G} {h : mx_H} {S : xS} (hI : xI z NK c g h S) {k : Nat} {x : mx_C} (hk : S k = some (.inr x)) (y : mx_C) : xI z NK c g (mx_set h (z + k) y) (xu S k (.inr y)) := by
  obtain ⟨hD, e, ar, f, h1, h2, h3, h4, h5, h6, h7⟩ := hI
  have hsome : ∀ j, (xu S k (.inr y) j).isSome = true → (S j).isSome = true := by
    intro j hj
    by_cases hjk : j = k
    · rw [hjk, hk]; rfl
    · rw [xu_ne _ _ hjk] at hj; exact hj
  refine ⟨hD.up hk, e, ar, f, h1, h2, h3.keep rfl rfl ?_, ?_, ?_, ?_, ?_⟩
  · intro q hq
    rw [mx_get_set]
    by_cases hqk : q = z + k
    · rw [hqk, h4 k x hk] at hq; cases hq
    · rw [if_neg hqk]; exact hq
  · intro j u hj
    rw [mx_get_set]
    by_cases hjk : j = k
    · subst hjk
      rw [xu_self] at hj
      cases hj
      rw [if_pos rfl]
    · rw [xu_ne _ _ hjk] at hj
      rw [if_neg (by omega)]
      exact h4 j u hj
  · intro j xs hj
    have hjk : j ≠ k := by
      intro hh
      subst hh
      rw [xu_self] at hj
      cases hj
    rw [xu_ne _ _ hjk] at hj
    obtain ⟨a1, a2, a3, a4, a5, a6, a7⟩ := h5 j xs hj
    have hne : ar j ≠ z + k := a7 k (by rw [hk]; rfl)
    refine ⟨a1, ?_, ?_, a4, a5, a6, fun i hi => a7 i (hsome i hi)⟩
    · rw [mx_get_set, if_neg (by omega)]; exact a2
    · rw [mx_get_set, if_neg hne]; exact a3
  · intro i j xs xs' hi hj
    have hik : i ≠ k := by
      intro hh
      subst hh
      rw [xu_self] at hi
      cases hi
    have hjk : j ≠ k := by
      intro hh
      subst hh
      rw [xu_self] at hj
      cases hj
    rw [xu_ne _ _ hik] at hi
    rw [xu_ne _ _ hjk] at hj
    exact h6 i j xs xs' hi hj
  · intro q hq
    rw [mx_get_set]
    have h8 := h7 q hq
    by_cases hqk : q = z + k
    · rw [hqk, h4 k x hk] at h8; cases h8
    · rw [if_neg hqk]; exact h8
/-- a Numbers has changed, in its place -/
theorem xJ.num {z : Nat} {NK : List Nat} {c : Nat × Nat} {g : mx_G} {h h' : mx_H} {S : xS} {e ar : Nat → Nat} {f : Nat → Nat → Int32} (hD : xD z NK c S) (hJ : xJ z NK c g h S e ar f) {k : Nat} {xs ys : List Int32} {f' : Nat → Int32} (hk : S k = some (.inl xs)) (z1 : h'.1 = h.1) (z2 : h'.2.1 = h.2.1) (z3 : h'.2.2.2 = h.2.2.2)
    (g1 : mx_get h' (z + k) = some (.inr (6, [.ref (ar k), .int (nI ys.length)]))) (g2 : mx_get h' (ar k) = some (.inl (false, 16 * 2 ^ e k, f'))) (g3 : ∀ q, q ≠ z + k → q ≠ ar k → mx_get h' q = mx_get h q) (hl : ys.length ≤ 16 * 2 ^ e k) (hv : ∀ i v, ys[i]? = some v → f' i = v) : xI z NK c g h' (xu S k (.inl ys)) := by
  obtain ⟨h1, h2, h3, h4, h5, h6, h7⟩ := hJ
  obtain ⟨a1, a2, a3, a4, a5, a6, a7⟩ := h5 k xs hk
  have hsome : ∀ j, (xu S k (.inl ys) j).isSome = true → (S j).isSome = true := by
    intro j hj
    by_cases hjk : j = k
    · rw [hjk, hk]; rfl
    · rw [xu_ne _ _ hjk] at hj; exact hj
  have hnone : ∀ q, mx_get h q = none → mx_get h' q = none := by
    intro q hq
    rw [g3 q (fun w => by rw [w, a2] at hq; cases hq) (fun w => by rw [w, a3] at hq; cases hq)]
    exact hq
  refine ⟨hD.up hk, e, ar, va_up f k f', z1.trans h1, z2.trans h2, h3.keep z1 z3 hnone, ?_, ?_, ?_, ?_⟩
  · intro j u hj
    have hjk : j ≠ k := by
      intro hh
      subst hh
      rw [xu_self] at hj
      cases hj
    rw [xu_ne _ _ hjk] at hj
    rw [g3 _ (by omega) (fun w => a7 j (by rw [hj]; rfl) w.symm)]
    exact h4 j u hj
  · intro j us hj
    by_cases hjk : j = k
    · subst hjk
      rw [xu_self] at hj
      cases hj
      refine ⟨a1, g1, by rw [va_up_self]; exact g2, hl, a5, by rw [va_up_self]; exact hv, fun i hi => a7 i (hsome i hi)⟩
    · rw [xu_ne _ _ hjk] at hj
      obtain ⟨b1, b2, b3, b4, b5, b6, b7⟩ := h5 j us hj
      refine ⟨b1, ?_, ?_, b4, b5, by rw [va_up_ne f f' hjk]; exact b6, fun i hi => b7 i (hsome i hi)⟩
      · rw [g3 _ (by omega) (fun w => a7 j (by rw [hj]; rfl) w.symm)]; exact b2
      · rw [va_up_ne f f' hjk, g3 _ (b7 k (by rw [hk]; rfl)) (fun w => hjk (h6 j k us xs hj hk w))]; exact b3
  · intro i j us vs hi hj
    have hi' : ∃ us', S i = some (.inl us') := by
      by_cases hik : i = k
      · exact ⟨xs, hik ▸ hk⟩
      · rw [xu_ne _ _ hik] at hi; exact ⟨us, hi⟩
    have hj' : ∃ us', S j = some (.inl us') := by
      by_cases hjk : j = k
      · exact ⟨xs, hjk ▸ hk⟩
      · rw [xu_ne _ _ hjk] at hj; exact ⟨vs, hj⟩
    obtain ⟨us', hi'⟩ := hi'
    obtain ⟨vs', hj'⟩ := hj'
    exact h6 i j us' vs' hi' hj'
  · intro q hq
    rw [z1] at hq
    exact hnone q (h7 q hq)
theorem x_sum_up {NK : List Nat} {e : Nat → Nat} {F : Nat → Nat} {k d : Nat} (hn : NK.Nodup) (hk : k ∈ NK) (x : Nat) (hx : F x = F (e k) + d) : (NK.map fun j => F (va_up e k x j)).sum = (NK.map fun j => F (e j)).sum + d := by
  induction NK with
  | nil => cases hk
  | cons a r ih =>
    have hn' := List.nodup_cons.mp hn
    simp only [List.map_cons, List.sum_cons]
    by_cases ha : a = k
    · subst ha
      rw [va_up_self]
      have e1 : (r.map fun j => F (va_up e a x j)) = r.map fun j => F (e j) := List.map_congr_left (fun j hj => by rw [va_up_ne e x (show j ≠ a from fun w => hn'.1 (by rw [← w]; exact hj))])
      rw [e1, hx]
      omega
    · rw [va_up_ne e x ha, ih hn'.2 ((List.mem_cons.mp hk).resolve_left (fun w => ha w.symm))]
      omega
/-- a Numbers has got a row of twice the length -/
theorem xJ.grow {z : Nat} {NK : List Nat} {c : Nat × Nat} {g : mx_G} {h h' : mx_H} {S : xS} {e ar : Nat → Nat} {f : Nat → Nat → Int32} (hD : xD z NK c S) (hJ : xJ z NK c g h S e ar f) {k : Nat} {xs ys : List Int32} {f' : Nat → Int32} (hk : S k = some (.inl xs)) (he : e k + 1 ≤ 13) (z1 : h'.1 = h.1 + 1) (z2 : h'.2.1 = h.2.1 + 2 * (16 * 2 ^ e k)) (z3 : h'.2.2.2 = h.2.2.2)
    (g1 : mx_get h' (z + k) = some (.inr (6, [.ref h.1, .int (nI ys.length)]))) (g2 : mx_get h' h.1 = some (.inl (false, 2 * (16 * 2 ^ e k), f'))) (g3 : ∀ q, q ≠ z + k → q ≠ h.1 → mx_get h' q = mx_get h q) (hl : ys.length ≤ 2 * (16 * 2 ^ e k)) (hv : ∀ i v, ys[i]? = some v → f' i = v) : xI z NK c g h' (xu S k (.inl ys)) := by
  obtain ⟨hNK, hzs, hS⟩ := id hD
  obtain ⟨h1, h2, h3, h4, h5, h6, h7⟩ := hJ
  obtain ⟨a1, a2, a3, a4, a5, a6, a7⟩ := h5 k xs hk
  have hc1 : c.1 ≤ h.1 := by omega
  have hsome : ∀ j, (xu S k (.inl ys) j).isSome = true → (S j).isSome = true := by
    intro j hj
    by_cases hjk : j = k
    · rw [hjk, hk]; rfl
    · rw [xu_ne _ _ hjk] at hj; exact hj
  have hp : 16 * 2 ^ (e k + 1) = 2 * (16 * 2 ^ e k) := by rw [Nat.pow_succ]; omega
  have hpos : 1 ≤ 2 ^ e k := Nat.one_le_two_pow
  have hlt : ∀ j us, S j = some (.inl us) → ar j < h.1 := by
    intro j us hj
    obtain ⟨-, -, b3, -⟩ := h5 j us hj
    rcases Nat.lt_or_ge (ar j) h.1 with w | w
    · exact w
    · rw [h7 _ w] at b3; cases b3
  refine ⟨hD.up hk, va_up e k (e k + 1), va_up ar k h.1, va_up f k f', ?_, ?_, ⟨z3.trans h3.1, fun j hj => ?_⟩, ?_, ?_, ?_, ?_⟩
  · have := x_sum_up (F := fun x => x) (e := e) (d := 1) hNK a1 (e k + 1) rfl
    have e9 : (NK.map (va_up e k (e k + 1))).sum = (NK.map e).sum + 1 := this
    rw [z1, h1, e9]
    omega
  · have := x_sum_up (F := fun x => 32 * 2 ^ x - 32) (e := e) (d := 2 * (16 * 2 ^ e k)) hNK a1 (e k + 1) (by
      have h9 : 32 * 2 ^ (e k + 1) = 2 * (32 * 2 ^ e k) := by rw [Nat.pow_succ]; omega
      show 32 * 2 ^ (e k + 1) - 32 = 32 * 2 ^ e k - 32 + 2 * (16 * 2 ^ e k)
      omega)
    rw [z2, h2, this]
    omega
  · obtain ⟨b1, b2, b3⟩ := h3.2 j hj
    refine ⟨by omega, ?_, b3⟩
    rw [g3 _ (fun w => by rw [w, a2] at b2; cases b2) (by omega)]
    exact b2
  · intro j u hj
    have hjk : j ≠ k := by
      intro hh
      subst hh
      rw [xu_self] at hj
      cases hj
    rw [xu_ne _ _ hjk] at hj
    have := hS j (by rw [hj]; rfl)
    rw [g3 _ (by omega) (by omega)]
    exact h4 j u hj
  · intro j us hj
    by_cases hjk : j = k
    · subst hjk
      rw [xu_self] at hj
      cases hj
      rw [va_up_self, va_up_self, va_up_self, hp]
      refine ⟨a1, g1, g2, hl, he, hv, fun i hi => ?_⟩
      have := hS i (hsome i hi)
      omega
    · rw [xu_ne _ _ hjk] at hj
      obtain ⟨b1, b2, b3, b4, b5, b6, b7⟩ := h5 j us hj
      have hl1 := hlt j us hj
      rw [va_up_ne e _ hjk, va_up_ne ar _ hjk, va_up_ne f _ hjk]
      have hzj := hzs j b1
      refine ⟨b1, ?_, ?_, b4, b5, b6, fun i hi => b7 i (hsome i hi)⟩
      · rw [g3 _ (by omega) (by omega)]; exact b2
      · rw [g3 _ (b7 k (by rw [hk]; rfl)) (by omega)]; exact b3
  · intro i j us vs hi hj hij
    have hi' : ∃ us', S i = some (.inl us') := by
      by_cases hik : i = k
      · exact ⟨xs, hik ▸ hk⟩
      · rw [xu_ne _ _ hik] at hi; exact ⟨us, hi⟩
    have hj' : ∃ us', S j = some (.inl us') := by
      by_cases hjk : j = k
      · exact ⟨xs, hjk ▸ hk⟩
      · rw [xu_ne _ _ hjk] at hj; exact ⟨vs, hj⟩
    obtain ⟨us', hi'⟩ := hi'
    obtain ⟨vs', hj'⟩ := hj'
    have l1 := hlt i us' hi'
    have l2 := hlt j vs' hj'
    by_cases hik : i = k
    · by_cases hjk : j = k
      · rw [hik, hjk]
      · rw [hik, va_up_self, va_up_ne ar _ hjk] at hij; omega
    · by_cases hjk : j = k
      · rw [hjk, va_up_self, va_up_ne ar _ hik] at hij; omega
      · rw [va_up_ne ar _ hik, va_up_ne ar _ hjk] at hij
        exact h6 i j us' vs' hi' hj' hij
  · intro q hq
    have hzk := hzs k a1
    rw [g3 q (by omega) (by omega)]
    exact h7 q (by omega)
