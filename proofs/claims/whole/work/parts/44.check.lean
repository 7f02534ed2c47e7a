/-! HOW LONG THE ROW IS, and that what goes round spends: hh: the row's length at a label, rho: a number that falls along every way that spends nothing -/
abbrev CK : Type := Option (Nat × Nat × Bool)
abbrev CP : Type := (Int32 → Nat) × (Int32 → Nat) × Nat
abbrev CP.hh (C : CP) : Int32 → Nat := C.1
abbrev CP.rho (C : CP) : Int32 → Nat := C.2.1
abbrev CP.W (C : CP) : Nat := C.2.2
def ck (C : CP) : CK → II → Option CK
  | none, i => if i.1 = 13 then some (some (C.hh i.2, C.rho i.2, false)) else none
  | some (d, B, true), i => if i.1 = 12 ∧ C.hh i.2 + 1 = d ∧ C.rho i.2 < B then some (some (d, B, false)) else none
  | some (d, B, false), i =>
    if i.1 = 0 then (if d < 60 then some (some (d + 1, B, false)) else none)
    else if i.1 = 1 then (if d < 60 then some (some (d + 1, B, false)) else none)
    else if i.1 = 2 then (if 1 ≤ d then some (some (d - 1, B, false)) else none)
    else if i.1 = 3 then (if 1 ≤ d then some (some (d, B, false)) else none)
    else if i.1 = 4 then (if 2 ≤ d then some (some (d - 2, B, false)) else none)
    else if i.1 = 5 then (if 1 ≤ d then some (some (d, B, false)) else none)
    else if i.1 = 6 then (if 1 ≤ d then some (some (d, B, false)) else none)
    else if i.1 = 7 then (if 2 ≤ d then some (some (d - 1, B, false)) else none)
    else if i.1 = 8 then (if 2 ≤ d then some (some (d - 1, B, false)) else none)
    else if i.1 = 9 then (if 2 ≤ d then some (some (d, B, false)) else none)
    else if i.1 = 10 then (if C.hh i.2 = d ∧ C.rho i.2 < B then some none else none)
    else if i.1 = 11 then (if C.hh i.2 + 1 = d ∧ C.rho i.2 < B then some (some (d - 1, B, false)) else none)
    else if i.1 = 12 then (if C.hh i.2 + 1 = d ∧ C.rho i.2 < B then some (some (d - 1, B, false)) else none)
    else if i.1 = 13 then (if C.hh i.2 = d ∧ C.rho i.2 < B then some (some (d, C.rho i.2, false)) else none)
    else if i.1 = 14 then (if 1 ≤ d then some (some (d - 1, B, false)) else none)
    else if i.1 = 15 then some (some (d, C.W, false))
    else if i.1 = 16 then (if 1 ≤ d then some none else none)
    else if i.1 = 17 then some none
    else if i.1 = 18 then (if 1 ≤ d then some (some (d, B, true)) else none)
    else if i.1 = 19 then (if 2 ≤ d then some (some (d - 1, B, false)) else none)
    else if i.1 = 20 then (if 3 ≤ d then some (some (d - 3, B, false)) else none)
    else none
section CKS
variable {C : CP} {d B : Nat} {k : Int32}
theorem ck_0 : ck C (some (d, B, false)) (0, k) = (if d < 60 then some (some (d + 1, B, false)) else none) := rfl
theorem ck_1 : ck C (some (d, B, false)) (1, k) = (if d < 60 then some (some (d + 1, B, false)) else none) := rfl
theorem ck_2 : ck C (some (d, B, false)) (2, k) = (if 1 ≤ d then some (some (d - 1, B, false)) else none) := rfl
theorem ck_3 : ck C (some (d, B, false)) (3, k) = (if 1 ≤ d then some (some (d, B, false)) else none) := rfl
theorem ck_4 : ck C (some (d, B, false)) (4, k) = (if 2 ≤ d then some (some (d - 2, B, false)) else none) := rfl
theorem ck_5 : ck C (some (d, B, false)) (5, k) = (if 1 ≤ d then some (some (d, B, false)) else none) := rfl
theorem ck_6 : ck C (some (d, B, false)) (6, k) = (if 1 ≤ d then some (some (d, B, false)) else none) := rfl
theorem ck_7 : ck C (some (d, B, false)) (7, k) = (if 2 ≤ d then some (some (d - 1, B, false)) else none) := rfl
theorem ck_8 : ck C (some (d, B, false)) (8, k) = (if 2 ≤ d then some (some (d - 1, B, false)) else none) := rfl
theorem ck_9 : ck C (some (d, B, false)) (9, k) = (if 2 ≤ d then some (some (d, B, false)) else none) := rfl
theorem ck_10 : ck C (some (d, B, false)) (10, k) = (if C.hh k = d ∧ C.rho k < B then some none else none) := rfl
theorem ck_11 : ck C (some (d, B, false)) (11, k) = (if C.hh k + 1 = d ∧ C.rho k < B then some (some (d - 1, B, false)) else none) := rfl
theorem ck_12 : ck C (some (d, B, false)) (12, k) = (if C.hh k + 1 = d ∧ C.rho k < B then some (some (d - 1, B, false)) else none) := rfl
theorem ck_13 : ck C (some (d, B, false)) (13, k) = (if C.hh k = d ∧ C.rho k < B then some (some (d, C.rho k, false)) else none) := rfl
theorem ck_14 : ck C (some (d, B, false)) (14, k) = (if 1 ≤ d then some (some (d - 1, B, false)) else none) := rfl
theorem ck_15 : ck C (some (d, B, false)) (15, k) = some (some (d, C.W, false)) := rfl
theorem ck_16 : ck C (some (d, B, false)) (16, k) = (if 1 ≤ d then some none else none) := rfl
theorem ck_17 : ck C (some (d, B, false)) (17, k) = some none := rfl
theorem ck_18 : ck C (some (d, B, false)) (18, k) = (if 1 ≤ d then some (some (d, B, true)) else none) := rfl
theorem ck_19 : ck C (some (d, B, false)) (19, k) = (if 2 ≤ d then some (some (d - 1, B, false)) else none) := rfl
theorem ck_20 : ck C (some (d, B, false)) (20, k) = (if 3 ≤ d then some (some (d - 3, B, false)) else none) := rfl
theorem ck_13n : ck C none (13, k) = some (some (C.hh k, C.rho k, false)) := rfl
theorem ck_n {a b : Int32} (h : ¬ a = 13) : ck C none (a, b) = none := by simp [ck, h]
theorem ck_p {a b : Int32} (h : ¬ a = 12) : ck C (some (d, B, true)) (a, b) = none := by simp [ck, h]
end CKS
def cle (t t' : CK) : Prop := t' = none ∨ ∃ d B B' q, t = some (d, B, q) ∧ t' = some (d, B', q) ∧ B ≤ B'
theorem cle.refl (t : CK) : cle t t := by
  cases t with
  | none => exact .inl rfl
  | some x => obtain ⟨d, B, q⟩ := x; exact .inr ⟨d, B, B, q, rfl, rfl, Nat.le_refl _⟩
theorem cle.trans {a b c : CK} (h1 : cle a b) (h2 : cle b c) : cle a c := by
  rcases h2 with rfl | ⟨d, B, B', q, rfl, rfl, h2⟩
  · exact .inl rfl
  · rcases h1 with h1 | ⟨d1, B1, B2, q1, rfl, h3, h4⟩
    · cases h1
    · cases h3
      exact .inr ⟨_, _, _, _, rfl, rfl, Nat.le_trans h4 h2⟩
def rck (C : CP) : List II → CK → Option CK
  | [], s => some s
  | i :: r, s => (rck C r s).bind fun u => ck C u i
def fck (C : CP) : List II → CK → Option CK
  | [], s => some s
  | i :: t, s => (ck C s i).bind fun u => fck C t u
theorem fck_app (C : CP) (a b : List II) (s : CK) : fck C (a ++ b) s = (fck C a s).bind fun u => fck C b u := by
  induction a generalizing s with
  | nil => rfl
  | cons i a ih =>
    simp only [List.cons_append, fck]
    cases ck C s i with
    | none => rfl
    | some u => exact ih u
theorem rck_fck (C : CP) (r : List II) (s : CK) : rck C r s = fck C r.reverse s := by
  induction r with
  | nil => rfl
  | cons i r ih =>
    rw [List.reverse_cons, fck_app, ← ih, rck]
    congr 1
    funext u
    simp only [fck]
    cases ck C u i <;> rfl
theorem rck_app (C : CP) (a b : List II) (s : CK) : rck C (a ++ b) s = (rck C b s).bind fun u => rck C a u := by
  simp only [rck_fck, List.reverse_append, fck_app]
theorem rck_start {C : CP} {o : List II} {a b : Int32} {s t : CK} (h : rck C (o ++ [(a, b)]) s = some t) (h1 : ¬ a = 13) (h2 : ¬ a = 12 ∨ ∀ d B, s ≠ some (d, B, true)) : ∃ d B, s = some (d, B, false) := by
  rw [rck_app] at h
  cases s with
  | none => simp only [rck, Option.bind_some, ck_n h1, Option.bind_none] at h; cases h
  | some x =>
    obtain ⟨d, B, q⟩ := x
    cases q with
    | false => exact ⟨d, B, rfl⟩
    | true =>
      rcases h2 with h2 | h2
      · simp only [rck, Option.bind_some, ck_p h2, Option.bind_none] at h; cases h
      · exact absurd rfl (h2 d B)
/-- a rule keeps the lengths -/
theorem rule_ck {C : CP} {u : Bool} {o n : List II} (R : Rule u o n) {s t : CK} (hu : u = true → ∀ d B, s ≠ some (d, B, true)) (h : rck C o s = some t) : ∃ t', rck C n s = some t' ∧ cle t t' := by
  rcases R with ⟨i, rfl, rfl, rfl⟩ | ⟨b, k, rfl, rfl, rfl⟩ | ⟨b, k, rfl, rfl, rfl⟩ | ⟨b, k, rfl, rfl, rfl⟩ | ⟨b, k, rfl, rfl, rfl⟩ | ⟨b, k, rfl, rfl, rfl, hb⟩ | ⟨b, k, rfl, rfl, rfl, hb⟩ | ⟨b, k, b2, rfl, rfl, rfl, hb⟩ | ⟨b, k, b2, rfl, rfl, rfl⟩ | ⟨k, b2, rfl, rfl, rfl, h0, h1, h2⟩ | ⟨b, k, rfl, rfl, rfl⟩ | ⟨b, k, rfl, rfl, rfl⟩ | ⟨b, k, rfl, rfl, rfl⟩ | ⟨b, k, rfl, rfl, rfl⟩ | ⟨n, b, k, rfl, rfl, rfl, hn, hb⟩ | ⟨n, b, k, rfl, rfl, rfl, hn, hb⟩ | ⟨n, b, k, rfl, rfl, rfl, hn⟩ | ⟨n, b, k, rfl, rfl, rfl, hn, hb⟩ | ⟨k, rfl, rfl, rfl⟩ | ⟨n, b, k, rfl, rfl, rfl, hn⟩ | ⟨n, k, rfl, rfl, rfl, hn⟩
  · exact ⟨t, h, cle.refl t⟩
  · obtain ⟨d, B, rfl⟩ := rck_start (o := [(5, k)]) h (by decide) (.inl (by decide))
    simp only [rck, Option.bind_some, ck_0] at h ⊢
    split at h
    · simp only [Option.bind_some, ck_5] at h
      split at h
      · cases h; rw [if_pos (by assumption)]; exact ⟨_, rfl, cle.refl _⟩
      · first | (cases h; done) | omega
    · first | (cases h; done) | omega
  · obtain ⟨d, B, rfl⟩ := rck_start (o := [(6, k)]) h (by decide) (.inl (by decide))
    simp only [rck, Option.bind_some, ck_0] at h ⊢
    split at h
    · simp only [Option.bind_some, ck_6] at h
      split at h
      · cases h; rw [if_pos (by assumption)]; exact ⟨_, rfl, cle.refl _⟩
      · first | (cases h; done) | omega
    · first | (cases h; done) | omega
  · obtain ⟨d, B, rfl⟩ := rck_start (o := [(5, k)]) h (by decide) (.inl (by decide))
    simp only [rck, Option.bind_some, ck_5] at h ⊢
    split at h
    · simp only [Option.bind_some, ck_5] at h
      split at h
      · cases h; exact ⟨_, rfl, cle.refl _⟩
      · first | (cases h; done) | omega
    · first | (cases h; done) | omega
  · obtain ⟨d, B, rfl⟩ := rck_start (o := [(6, k)]) h (by decide) (.inl (by decide))
    simp only [rck, Option.bind_some, ck_6] at h ⊢
    split at h
    · simp only [Option.bind_some, ck_6] at h
      split at h
      · cases h; exact ⟨_, rfl, cle.refl _⟩
      · first | (cases h; done) | omega
    · first | (cases h; done) | omega
  · obtain ⟨d, B, rfl⟩ := rck_start (o := [(6, k)]) h (by decide) (.inl (by decide))
    simp only [rck, Option.bind_some, ck_8] at h ⊢
    split at h
    · simp only [Option.bind_some, ck_6] at h
      split at h
      · cases h; rw [if_pos (by assumption)]; exact ⟨_, rfl, cle.refl _⟩
      · first | (cases h; done) | omega
    · first | (cases h; done) | omega
  · obtain ⟨d, B, rfl⟩ := rck_start (o := [(7, k)]) h (by decide) (.inl (by decide))
    simp only [rck, Option.bind_some, ck_0] at h ⊢
    split at h
    · simp only [Option.bind_some, ck_7] at h
      split at h
      · cases h; exact ⟨_, rfl, cle.refl _⟩
      · first | (cases h; done) | omega
    · first | (cases h; done) | omega
  · obtain ⟨d, B, rfl⟩ := rck_start (o := [(7, k), (0, b)]) h (by decide) (.inl (by decide))
    simp only [rck, Option.bind_some, ck_0] at h ⊢
    split at h
    · simp only [Option.bind_some, ck_0] at h
      split at h
      · simp only [Option.bind_some, ck_7] at h
        split at h
        · cases h; rw [if_pos (by assumption)]; exact ⟨_, rfl, cle.refl _⟩
        · first | (cases h; done) | omega
      · first | (cases h; done) | omega
    · first | (cases h; done) | omega
  · obtain ⟨d, B, rfl⟩ := rck_start (o := [(8, k), (0, b)]) h (by decide) (.inl (by decide))
    simp only [rck, Option.bind_some, ck_0] at h ⊢
    split at h
    · simp only [Option.bind_some, ck_0] at h
      split at h
      · simp only [Option.bind_some, ck_8] at h
        split at h
        · cases h; rw [if_pos (by assumption)]; exact ⟨_, rfl, cle.refl _⟩
        · first | (cases h; done) | omega
      · first | (cases h; done) | omega
    · first | (cases h; done) | omega
  · obtain ⟨d, B, rfl⟩ := rck_start (o := [(8, k), (0, 0)]) h (by decide) (.inl (by decide))
    simp only [rck, Option.bind_some, ck_8] at h ⊢
    split at h
    · simp only [Option.bind_some, ck_0] at h
      split at h
      · simp only [Option.bind_some, ck_8] at h
        split at h
        · cases h; rw [if_pos (by assumption)]; exact ⟨_, rfl, cle.refl _⟩
        · first | (cases h; done) | omega
      · first | (cases h; done) | omega
    · first | (cases h; done) | omega
  · obtain ⟨d, B, rfl⟩ := rck_start (o := [(14, k)]) h (by decide) (.inl (by decide))
    simp only [rck, Option.bind_some, ck_5] at h ⊢
    split at h
    · simp only [Option.bind_some, ck_14] at h ⊢
      exact ⟨t, h, cle.refl _⟩
    · first | (cases h; done) | omega
  · obtain ⟨d, B, rfl⟩ := rck_start (o := [(14, k)]) h (by decide) (.inl (by decide))
    simp only [rck, Option.bind_some, ck_6] at h ⊢
    split at h
    · simp only [Option.bind_some, ck_14] at h ⊢
      exact ⟨t, h, cle.refl _⟩
    · first | (cases h; done) | omega
  · obtain ⟨d, B, rfl⟩ := rck_start (o := [(14, k)]) h (by decide) (.inl (by decide))
    simp only [rck, Option.bind_some, ck_0] at h ⊢
    split at h
    · simp only [Option.bind_some, ck_14] at h
      split at h
      · cases h; exact ⟨_, rfl, cle.refl _⟩
      · first | (cases h; done) | omega
    · first | (cases h; done) | omega
  · obtain ⟨d, B, rfl⟩ := rck_start (o := [(14, k)]) h (by decide) (.inl (by decide))
    simp only [rck, Option.bind_some, ck_1] at h ⊢
    split at h
    · simp only [Option.bind_some, ck_14] at h
      split at h
      · cases h; exact ⟨_, rfl, cle.refl _⟩
      · first | (cases h; done) | omega
    · first | (cases h; done) | omega
  · obtain ⟨d, B, rfl⟩ := rck_start (o := [(n, k)]) h (by decide) (.inl (by decide))
    simp only [rck, Option.bind_some, ck_0] at h ⊢
    split at h
    · have e : (if C.hh k + 1 = d + 1 ∧ C.rho k < B then some (some (d + 1 - 1, B, false)) else none) = some t := by
        rcases hn with rfl | rfl
        · simpa only [Option.bind_some, ck_11] using h
        · simpa only [Option.bind_some, ck_12] using h
      split at e
      · rename_i w
        rw [ck_10, if_pos ⟨by omega, w.2⟩]; exact ⟨_, rfl, .inl rfl⟩
      · cases e
    · first | (cases h; done) | omega
  · obtain ⟨d, B, rfl⟩ := rck_start (o := [(n, k)]) h (by decide) (.inl (by decide))
    simp only [rck, Option.bind_some, ck_0] at h ⊢
    split at h
    · have e : (if C.hh k + 1 = d + 1 ∧ C.rho k < B then some (some (d + 1 - 1, B, false)) else none) = some t := by
        rcases hn with rfl | rfl
        · simpa only [Option.bind_some, ck_11] using h
        · simpa only [Option.bind_some, ck_12] using h
      split at e
      · cases e; exact ⟨_, rfl, cle.refl _⟩
      · cases e
    · first | (cases h; done) | omega
  · obtain ⟨d, B, rfl⟩ := rck_start (o := [(n, k)]) h (by decide) (.inl (by decide))
    simp only [rck, Option.bind_some, ck_5] at h ⊢
    split at h
    · exact ⟨t, h, cle.refl _⟩
    · first | (cases h; done) | omega
  · obtain ⟨d, B, rfl⟩ := rck_start (o := [(n, k), (8, b)]) h (by decide) (.inl (by decide))
    simp only [rck, Option.bind_some, ck_0] at h ⊢
    split at h
    · simp only [Option.bind_some, ck_8] at h
      split at h
      · have e : (if C.hh k + 1 = d + 1 - 1 ∧ C.rho k < B then some (some (d + 1 - 1 - 1, B, false)) else none) = some t := by
          rcases hn with rfl | rfl
          · simpa only [Option.bind_some, ck_11] using h
          · simpa only [Option.bind_some, ck_12] using h
        refine ⟨t, ?_, cle.refl _⟩
        rw [← e]
        rcases hn with rfl | rfl <;> rcases hb with rfl | rfl <;> rfl
      · first | (cases h; done) | omega
    · first | (cases h; done) | omega
  · obtain ⟨d, B, rfl⟩ := rck_start (o := [(13, k)]) h (by decide) (.inl (by decide))
    simp only [rck, Option.bind_some, ck_10] at h ⊢
    split at h
    · rename_i w
      simp only [Option.bind_some, ck_13n] at h
      cases h
      rw [ck_13, if_pos w, w.1]
      exact ⟨_, rfl, cle.refl _⟩
    · first | (cases h; done) | omega
  · obtain ⟨d, B, rfl⟩ := rck_start (o := [(13, k), (10, b)]) h (by rcases hn with rfl | rfl <;> decide) (.inr (hu rfl))
    simp only [rck, Option.bind_some] at h ⊢
    have e1 : ck C (some (d, B, false)) (n, k) = (if C.hh k + 1 = d ∧ C.rho k < B then some (some (d - 1, B, false)) else none) := by rcases hn with rfl | rfl <;> rfl
    have e2 : ck C (some (d, B, false)) (p_other n, b) = (if C.hh b + 1 = d ∧ C.rho b < B then some (some (d - 1, B, false)) else none) := by rcases hn with rfl | rfl <;> rfl
    rw [e1] at h
    split at h
    · rename_i w
      simp only [Option.bind_some, ck_10] at h
      split at h
      · rename_i w2
        simp only [Option.bind_some, ck_13n] at h
        cases h
        rw [e2, if_pos ⟨by omega, w2.2⟩]
        simp only [Option.bind_some, ck_13]
        rw [if_pos ⟨by omega, w.2⟩, show C.hh k = d - 1 by omega]
        exact ⟨_, rfl, cle.refl _⟩
      · first | (cases h; done) | omega
    · first | (cases h; done) | omega
  · obtain ⟨d, B, rfl⟩ := rck_start (o := [(13, k)]) h (by rcases hn with rfl | rfl <;> decide) (.inr (hu rfl))
    simp only [rck, Option.bind_some] at h ⊢
    have e1 : ck C (some (d, B, false)) (n, k) = (if C.hh k + 1 = d ∧ C.rho k < B then some (some (d - 1, B, false)) else none) := by rcases hn with rfl | rfl <;> rfl
    rw [e1] at h
    split at h
    · rename_i w
      rw [ck_14, if_pos (by omega)]
      exact ⟨t, h, cle.refl _⟩
    · first | (cases h; done) | omega
theorem ck_inv {C : CP} {d B : Nat} {a k : Int32} {u : CK} (h : ck C (some (d, B, false)) (a, k) = some u) :
    (a = 0 ∧ (d < 60) ∧ u = some (d + 1, B, false)) ∨
    (a = 1 ∧ (d < 60) ∧ u = some (d + 1, B, false)) ∨
    (a = 2 ∧ (1 ≤ d) ∧ u = some (d - 1, B, false)) ∨
    (a = 3 ∧ (1 ≤ d) ∧ u = some (d, B, false)) ∨
    (a = 4 ∧ (2 ≤ d) ∧ u = some (d - 2, B, false)) ∨
    (a = 5 ∧ (1 ≤ d) ∧ u = some (d, B, false)) ∨
    (a = 6 ∧ (1 ≤ d) ∧ u = some (d, B, false)) ∨
    (a = 7 ∧ (2 ≤ d) ∧ u = some (d - 1, B, false)) ∨
    (a = 8 ∧ (2 ≤ d) ∧ u = some (d - 1, B, false)) ∨
    (a = 9 ∧ (2 ≤ d) ∧ u = some (d, B, false)) ∨
    (a = 10 ∧ (C.hh k = d ∧ C.rho k < B) ∧ u = none) ∨
    (a = 11 ∧ (C.hh k + 1 = d ∧ C.rho k < B) ∧ u = some (d - 1, B, false)) ∨
    (a = 12 ∧ (C.hh k + 1 = d ∧ C.rho k < B) ∧ u = some (d - 1, B, false)) ∨
    (a = 13 ∧ (C.hh k = d ∧ C.rho k < B) ∧ u = some (d, C.rho k, false)) ∨
    (a = 14 ∧ (1 ≤ d) ∧ u = some (d - 1, B, false)) ∨
    (a = 15 ∧ u = some (d, C.W, false)) ∨
    (a = 16 ∧ (1 ≤ d) ∧ u = none) ∨
    (a = 17 ∧ u = none) ∨
    (a = 18 ∧ (1 ≤ d) ∧ u = some (d, B, true)) ∨
    (a = 19 ∧ (2 ≤ d) ∧ u = some (d - 1, B, false)) ∨
    (a = 20 ∧ (3 ≤ d) ∧ u = some (d - 3, B, false)) := by
  by_cases e0 : a = 0
  · subst e0
    rw [ck_0] at h
    by_cases c : d < 60
    · rw [if_pos c] at h; cases h; exact .inl ⟨rfl, c, rfl⟩
    · rw [if_neg c] at h; cases h
  by_cases e1 : a = 1
  · subst e1
    rw [ck_1] at h
    by_cases c : d < 60
    · rw [if_pos c] at h; cases h; exact .inr (.inl ⟨rfl, c, rfl⟩)
    · rw [if_neg c] at h; cases h
  by_cases e2 : a = 2
  · subst e2
    rw [ck_2] at h
    by_cases c : 1 ≤ d
    · rw [if_pos c] at h; cases h; exact .inr (.inr (.inl ⟨rfl, c, rfl⟩))
    · rw [if_neg c] at h; cases h
  by_cases e3 : a = 3
  · subst e3
    rw [ck_3] at h
    by_cases c : 1 ≤ d
    · rw [if_pos c] at h; cases h; exact .inr (.inr (.inr (.inl ⟨rfl, c, rfl⟩)))
    · rw [if_neg c] at h; cases h
  by_cases e4 : a = 4
  · subst e4
    rw [ck_4] at h
    by_cases c : 2 ≤ d
    · rw [if_pos c] at h; cases h; exact .inr (.inr (.inr (.inr (.inl ⟨rfl, c, rfl⟩))))
    · rw [if_neg c] at h; cases h
  by_cases e5 : a = 5
  · subst e5
    rw [ck_5] at h
    by_cases c : 1 ≤ d
    · rw [if_pos c] at h; cases h; exact .inr (.inr (.inr (.inr (.inr (.inl ⟨rfl, c, rfl⟩)))))
    · rw [if_neg c] at h; cases h
  by_cases e6 : a = 6
  · subst e6
    rw [ck_6] at h
    by_cases c : 1 ≤ d
    · rw [if_pos c] at h; cases h; exact .inr (.inr (.inr (.inr (.inr (.inr (.inl ⟨rfl, c, rfl⟩))))))
    · rw [if_neg c] at h; cases h
  by_cases e7 : a = 7
  · subst e7
    rw [ck_7] at h
    by_cases c : 2 ≤ d
    · rw [if_pos c] at h; cases h; exact .inr (.inr (.inr (.inr (.inr (.inr (.inr (.inl ⟨rfl, c, rfl⟩)))))))
    · rw [if_neg c] at h; cases h
  by_cases e8 : a = 8
  · subst e8
    rw [ck_8] at h
    by_cases c : 2 ≤ d
    · rw [if_pos c] at h; cases h; exact .inr (.inr (.inr (.inr (.inr (.inr (.inr (.inr (.inl ⟨rfl, c, rfl⟩))))))))
    · rw [if_neg c] at h; cases h
  by_cases e9 : a = 9
  · subst e9
    rw [ck_9] at h
    by_cases c : 2 ≤ d
    · rw [if_pos c] at h; cases h; exact .inr (.inr (.inr (.inr (.inr (.inr (.inr (.inr (.inr (.inl ⟨rfl, c, rfl⟩)))))))))
    · rw [if_neg c] at h; cases h
  by_cases e10 : a = 10
  · subst e10
    rw [ck_10] at h
    by_cases c : C.hh k = d ∧ C.rho k < B
    · rw [if_pos c] at h; cases h; exact .inr (.inr (.inr (.inr (.inr (.inr (.inr (.inr (.inr (.inr (.inl ⟨rfl, c, rfl⟩))))))))))
    · rw [if_neg c] at h; cases h
  by_cases e11 : a = 11
  · subst e11
    rw [ck_11] at h
    by_cases c : C.hh k + 1 = d ∧ C.rho k < B
    · rw [if_pos c] at h; cases h; exact .inr (.inr (.inr (.inr (.inr (.inr (.inr (.inr (.inr (.inr (.inr (.inl ⟨rfl, c, rfl⟩)))))))))))
    · rw [if_neg c] at h; cases h
  by_cases e12 : a = 12
  · subst e12
    rw [ck_12] at h
    by_cases c : C.hh k + 1 = d ∧ C.rho k < B
    · rw [if_pos c] at h; cases h; exact .inr (.inr (.inr (.inr (.inr (.inr (.inr (.inr (.inr (.inr (.inr (.inr (.inl ⟨rfl, c, rfl⟩))))))))))))
    · rw [if_neg c] at h; cases h
  by_cases e13 : a = 13
  · subst e13
    rw [ck_13] at h
    by_cases c : C.hh k = d ∧ C.rho k < B
    · rw [if_pos c] at h; cases h; exact .inr (.inr (.inr (.inr (.inr (.inr (.inr (.inr (.inr (.inr (.inr (.inr (.inr (.inl ⟨rfl, c, rfl⟩)))))))))))))
    · rw [if_neg c] at h; cases h
  by_cases e14 : a = 14
  · subst e14
    rw [ck_14] at h
    by_cases c : 1 ≤ d
    · rw [if_pos c] at h; cases h; exact .inr (.inr (.inr (.inr (.inr (.inr (.inr (.inr (.inr (.inr (.inr (.inr (.inr (.inr (.inl ⟨rfl, c, rfl⟩))))))))))))))
    · rw [if_neg c] at h; cases h
  by_cases e15 : a = 15
  · subst e15
    rw [ck_15] at h
    cases h; exact .inr (.inr (.inr (.inr (.inr (.inr (.inr (.inr (.inr (.inr (.inr (.inr (.inr (.inr (.inr (.inl ⟨rfl, rfl⟩)))))))))))))))
  by_cases e16 : a = 16
  · subst e16
    rw [ck_16] at h
    by_cases c : 1 ≤ d
    · rw [if_pos c] at h; cases h; exact .inr (.inr (.inr (.inr (.inr (.inr (.inr (.inr (.inr (.inr (.inr (.inr (.inr (.inr (.inr (.inr (.inl ⟨rfl, c, rfl⟩))))))))))))))))
    · rw [if_neg c] at h; cases h
  by_cases e17 : a = 17
  · subst e17
    rw [ck_17] at h
    cases h; exact .inr (.inr (.inr (.inr (.inr (.inr (.inr (.inr (.inr (.inr (.inr (.inr (.inr (.inr (.inr (.inr (.inr (.inl ⟨rfl, rfl⟩)))))))))))))))))
  by_cases e18 : a = 18
  · subst e18
    rw [ck_18] at h
    by_cases c : 1 ≤ d
    · rw [if_pos c] at h; cases h; exact .inr (.inr (.inr (.inr (.inr (.inr (.inr (.inr (.inr (.inr (.inr (.inr (.inr (.inr (.inr (.inr (.inr (.inr (.inl ⟨rfl, c, rfl⟩))))))))))))))))))
    · rw [if_neg c] at h; cases h
  by_cases e19 : a = 19
  · subst e19
    rw [ck_19] at h
    by_cases c : 2 ≤ d
    · rw [if_pos c] at h; cases h; exact .inr (.inr (.inr (.inr (.inr (.inr (.inr (.inr (.inr (.inr (.inr (.inr (.inr (.inr (.inr (.inr (.inr (.inr (.inr (.inl ⟨rfl, c, rfl⟩)))))))))))))))))))
    · rw [if_neg c] at h; cases h
  by_cases e20 : a = 20
  · subst e20
    rw [ck_20] at h
    by_cases c : 3 ≤ d
    · rw [if_pos c] at h; cases h; exact .inr (.inr (.inr (.inr (.inr (.inr (.inr (.inr (.inr (.inr (.inr (.inr (.inr (.inr (.inr (.inr (.inr (.inr (.inr (.inr (⟨rfl, c, rfl⟩))))))))))))))))))))
    · rw [if_neg c] at h; cases h
  exfalso
  simp only [ck] at h
  rw [if_neg e0, if_neg e1, if_neg e2, if_neg e3, if_neg e4, if_neg e5, if_neg e6, if_neg e7, if_neg e8, if_neg e9, if_neg e10, if_neg e11, if_neg e12, if_neg e13, if_neg e14, if_neg e15, if_neg e16, if_neg e17, if_neg e18, if_neg e19, if_neg e20] at h
  cases h
theorem pte {a b : Int32} (h : ¬ t_ends a = true) : ¬ t_ends ((a, b) : II).1 = true := h
/-- where a way is at an end, and where an 18 waits for its 12 -/
theorem ck_ends {C : CP} {s u : CK} {i : II} (h : ck C s i = some u) : (u = none ↔ t_ends i.1 = true) ∧ ((∃ d B, u = some (d, B, true)) → i.1 = 18) := by
  obtain ⟨a, k⟩ := i
  rcases s with _ | ⟨d, B, q⟩
  · by_cases e : a = 13
    · subst e
      cases h
      exact ⟨⟨fun q => (by cases q), fun q => absurd q (pte (by decide))⟩, by rintro ⟨d, B, w⟩; cases w⟩
    · rw [ck_n e] at h; cases h
  cases q with
  | true =>
    by_cases e : a = 12
    · subst e
      simp only [ck] at h
      split at h
      · cases h
        exact ⟨⟨fun q => (by cases q), fun q => absurd q (pte (by decide))⟩, by rintro ⟨d, B, w⟩; cases w⟩
      · cases h
    · rw [ck_p e] at h; cases h
  | false =>
    rcases ck_inv h with ⟨rfl, -, rfl⟩ | ⟨rfl, -, rfl⟩ | ⟨rfl, -, rfl⟩ | ⟨rfl, -, rfl⟩ | ⟨rfl, -, rfl⟩ | ⟨rfl, -, rfl⟩ | ⟨rfl, -, rfl⟩ | ⟨rfl, -, rfl⟩ | ⟨rfl, -, rfl⟩ | ⟨rfl, -, rfl⟩ | ⟨rfl, -, rfl⟩ | ⟨rfl, -, rfl⟩ | ⟨rfl, -, rfl⟩ | ⟨rfl, -, rfl⟩ | ⟨rfl, -, rfl⟩ | ⟨rfl, rfl⟩ | ⟨rfl, -, rfl⟩ | ⟨rfl, rfl⟩ | ⟨rfl, -, rfl⟩ | ⟨rfl, -, rfl⟩ | ⟨rfl, -, rfl⟩
    · exact ⟨⟨fun q => (by cases q), fun q => absurd q (pte (by decide))⟩, by rintro ⟨d, B, w⟩; cases w⟩
    · exact ⟨⟨fun q => (by cases q), fun q => absurd q (pte (by decide))⟩, by rintro ⟨d, B, w⟩; cases w⟩
    · exact ⟨⟨fun q => (by cases q), fun q => absurd q (pte (by decide))⟩, by rintro ⟨d, B, w⟩; cases w⟩
    · exact ⟨⟨fun q => (by cases q), fun q => absurd q (pte (by decide))⟩, by rintro ⟨d, B, w⟩; cases w⟩
    · exact ⟨⟨fun q => (by cases q), fun q => absurd q (pte (by decide))⟩, by rintro ⟨d, B, w⟩; cases w⟩
    · exact ⟨⟨fun q => (by cases q), fun q => absurd q (pte (by decide))⟩, by rintro ⟨d, B, w⟩; cases w⟩
    · exact ⟨⟨fun q => (by cases q), fun q => absurd q (pte (by decide))⟩, by rintro ⟨d, B, w⟩; cases w⟩
    · exact ⟨⟨fun q => (by cases q), fun q => absurd q (pte (by decide))⟩, by rintro ⟨d, B, w⟩; cases w⟩
    · exact ⟨⟨fun q => (by cases q), fun q => absurd q (pte (by decide))⟩, by rintro ⟨d, B, w⟩; cases w⟩
    · exact ⟨⟨fun q => (by cases q), fun q => absurd q (pte (by decide))⟩, by rintro ⟨d, B, w⟩; cases w⟩
    · exact ⟨⟨fun _ => rfl, fun _ => rfl⟩, by rintro ⟨d, B, w⟩; cases w⟩
    · exact ⟨⟨fun q => (by cases q), fun q => absurd q (pte (by decide))⟩, by rintro ⟨d, B, w⟩; cases w⟩
    · exact ⟨⟨fun q => (by cases q), fun q => absurd q (pte (by decide))⟩, by rintro ⟨d, B, w⟩; cases w⟩
    · exact ⟨⟨fun q => (by cases q), fun q => absurd q (pte (by decide))⟩, by rintro ⟨d, B, w⟩; cases w⟩
    · exact ⟨⟨fun q => (by cases q), fun q => absurd q (pte (by decide))⟩, by rintro ⟨d, B, w⟩; cases w⟩
    · exact ⟨⟨fun q => (by cases q), fun q => absurd q (pte (by decide))⟩, by rintro ⟨d, B, w⟩; cases w⟩
    · exact ⟨⟨fun _ => rfl, fun _ => rfl⟩, by rintro ⟨d, B, w⟩; cases w⟩
    · exact ⟨⟨fun _ => rfl, fun _ => rfl⟩, by rintro ⟨d, B, w⟩; cases w⟩
    · exact ⟨⟨fun q => (by cases q), fun q => absurd q (pte (by decide))⟩, fun _ => rfl⟩
    · exact ⟨⟨fun q => (by cases q), fun q => absurd q (pte (by decide))⟩, by rintro ⟨d, B, w⟩; cases w⟩
    · exact ⟨⟨fun q => (by cases q), fun q => absurd q (pte (by decide))⟩, by rintro ⟨d, B, w⟩; cases w⟩
