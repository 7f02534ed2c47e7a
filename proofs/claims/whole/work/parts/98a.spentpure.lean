/-! WHAT IS SPENT, AS THE REFERENCE COUNTS IT -/
def zc (go : Nat → Int32) : Nat → Nat
  | 0 => 0
  | n + 1 => zc go n + (if go n = 0 then 1 else 0)
theorem zc_out {go : Nat → Int32} {i : Nat} {v : Int32} : ∀ n, n ≤ i → zc (upd go i v) n = zc go n := by
  intro n
  induction n with
  | zero => intro _; rfl
  | succ n ih =>
    intro h
    have : ¬ n = i := by omega
    have e : upd go i v n = go n := by simp [upd, this]
    rw [zc, zc, ih (by omega), e]
theorem zc_fall {go : Nat → Int32} {i : Nat} (h0 : go i = 0) : ∀ n, i < n → zc go n = zc (upd go i 1) n + 1 := by
  intro n
  induction n with
  | zero => intro h; omega
  | succ n ih =>
    intro h
    by_cases e : n = i
    · subst e
      have e2 : upd go n 1 n = 1 := by simp [upd]
      rw [zc, zc, zc_out n (by omega), e2, if_pos h0, if_neg (by decide)]
    · have e2 : upd go i 1 n = go n := by simp [upd, e]
      rw [zc, zc, e2, ih (by omega)]; omega
theorem zc_le (go : Nat → Int32) : ∀ n, zc go n ≤ n := by
  intro n
  induction n with
  | zero => exact Nat.le_refl 0
  | succ n ih => rw [zc]; split <;> omega
theorem zc_zero {go : Nat → Int32} : ∀ n, zc go n = 0 → ∀ i, i < n → ¬ go i = 0 := by
  intro n
  induction n with
  | zero => intro _ i hi; omega
  | succ n ih =>
    intro h i hi
    rw [zc] at h
    by_cases e : i = n
    · subst e; intro w; rw [if_pos w] at h; omega
    · exact ih (by omega) i (by omega)
theorem zc_pos {go : Nat → Int32} : ∀ n, ¬ zc go n = 0 → ∃ i, i < n ∧ go i = 0 := by
  intro n
  induction n with
  | zero => intro h; exact absurd rfl h
  | succ n ih =>
    intro h
    by_cases w : go n = 0
    · exact ⟨n, by omega, w⟩
    · rw [zc, if_neg w] at h
      obtain ⟨i, hi, h2⟩ := ih (by omega)
      exact ⟨i, by omega, h2⟩
/-- none, or gone -/
abbrev gn (go : Nat → Int32) (o : Option Nat) : Prop := ∀ j, o = some j → ¬ go j = 0
abbrev SpI (c : List II) (D : Nat → Option Nat) (go : Nat → Int32) : Prop :=
  (∀ i, i < c.length → fre' c D i = false → ¬ go i = 0) ∧ ∃ ρ : Nat → Nat, ∀ i j, i < c.length → fre' c D i = true → ¬ go i = 0 → fre' c D j = true → cE c i j ≠ 0 → ¬ go j = 0 ∧ ρ j < ρ i
theorem cE_or {c : List II} {i j : Nat} (h : cE c i j ≠ 0) : nxt c i = some j ∨ gol c i = some j := by
  unfold cE at h
  by_cases h1 : nxt c i = some j
  · exact .inl h1
  · by_cases h2 : gol c i = some j
    · exact .inr h2
    · rw [if_neg h1, if_neg h2] at h; exact absurd rfl h
theorem spI_step {c : List II} {D : Nat → Option Nat} {go : Nat → Int32} {i : Nat} (h : SpI c D go) (h0 : go i = 0) (h1 : gn go (nxt c i)) (h2 : gn go (gol c i)) : SpI c D (upd go i 1) := by
  obtain ⟨ha, ρ, hρ⟩ := h
  have keep : ∀ j, ¬ go j = 0 → ¬ upd go i 1 j = 0 := by
    intro j hj
    by_cases e : j = i
    · subst e; exact absurd h0 hj
    · simpa [upd, e] using hj
  refine ⟨fun j hj hf => keep j (ha j hj hf), fun j => if j = i then (ρ ((nxt c i).getD 0) + ρ ((gol c i).getD 0) + 1) else ρ j, ?_⟩
  intro a b hl hfa hga hfb he
  by_cases e : a = i
  · subst e
    have hb : ¬ go b = 0 := by
      rcases cE_or he with w | w
      · exact h1 b w
      · exact h2 b w
    have hne : ¬ b = a := fun w => by rw [w] at hb; exact hb h0
    refine ⟨keep b hb, ?_⟩
    simp only [hne, if_false, if_true]
    rcases cE_or he with w | w
    · rw [w]; simp only [Option.getD_some]; omega
    · rw [w]; simp only [Option.getD_some]; omega
  · have hga' : ¬ go a = 0 := by simpa [upd, e] using hga
    obtain ⟨p1, p2⟩ := hρ a b hl hfa hga' hfb he
    have hne : ¬ b = i := fun w => by rw [w] at p1; exact p1 h0
    refine ⟨keep b p1, ?_⟩
    simp only [hne, e, if_false]
    exact p2
theorem spent_yes {c : List II} {D : Nat → Option Nat} {go : Nat → Int32} (h : SpI c D go) (hD : ∀ i h, D i = some h → i < c.length) (hz : zc go c.length = 0) : Acy c D := by
  obtain ⟨ha, ρ, hρ⟩ := h
  refine ⟨ρ, fun i j hi hj he => ?_⟩
  have hl : i < c.length := by
    cases hd : D i with
    | none => simp [fre', hd] at hi
    | some h => exact hD i h hd
  exact (hρ i j hl hi (zc_zero _ hz i hl) hj he).2
theorem spent_no {c : List II} {D : Nat → Option Nat} {go : Nat → Int32} (h : SpI c D go) (hr : ∀ i j, fre' c D i = true → cE c i j ≠ 0 → j < c.length) (hb : ∀ i, i < c.length → go i = 0 → ¬ (gn go (nxt c i) ∧ gn go (gol c i))) (hz : ¬ zc go c.length = 0) : ¬ Acy c D := by
  rintro ⟨ρ, hρ⟩
  have fr : ∀ i, i < c.length → go i = 0 → fre' c D i = true := by
    intro i hi hg
    cases hf : fre' c D i with
    | true => rfl
    | false => exact absurd hg (h.1 i hi hf)
  have down : ∀ m i, ρ i ≤ m → i < c.length → go i = 0 → False := by
    intro m
    induction m with
    | zero =>
      intro i hm hi hg
      refine hb i hi hg ⟨fun j hj hg2 => ?_, fun j hj hg2 => ?_⟩
      · have he : cE c i j ≠ 0 := by unfold cE; rw [if_pos hj]; omega
        have hjl := hr i j (fr i hi hg) he
        have := hρ i j (fr i hi hg) (fr j hjl hg2) he
        omega
      · have he : cE c i j ≠ 0 := by unfold cE; rw [if_pos hj]; omega
        have hjl := hr i j (fr i hi hg) he
        have := hρ i j (fr i hi hg) (fr j hjl hg2) he
        omega
    | succ m ih =>
      intro i hm hi hg
      refine hb i hi hg ⟨fun j hj hg2 => ?_, fun j hj hg2 => ?_⟩
      · have he : cE c i j ≠ 0 := by unfold cE; rw [if_pos hj]; omega
        have hjl := hr i j (fr i hi hg) he
        have := hρ i j (fr i hi hg) (fr j hjl hg2) he
        exact ih j (by omega) hjl hg2
      · have he : cE c i j ≠ 0 := by unfold cE; rw [if_pos hj]; omega
        have hjl := hr i j (fr i hi hg) he
        have := hρ i j (fr i hi hg) (fr j hjl hg2) he
        exact ih j (by omega) hjl hg2
  obtain ⟨i, hi, hg⟩ := zc_pos _ hz
  exact down (ρ i) i (Nat.le_refl _) hi hg
