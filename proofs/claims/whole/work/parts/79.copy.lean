/-! WHAT IS REACHED, copied: a good code -/
def kp (c : List II) (D : Nat → Option Nat) (i : Nat) : Bool := (D i).isSome || (decide (1 ≤ i) && (decide (nb c (i - 1) = 18) && (D (i - 1)).isSome))
def rst (c : List II) (D : Nat → Option Nat) : Nat → Nat → List II
  | 0, _ => []
  | d + 1, i => if kp c D i = true then q0 c i :: rst c D d (i + 1) else rst c D d (i + 1)
theorem keep_ref {c : List II} {D : Nat → Option Nat} {ds : List Int32} (hc : c.length < 2 ^ 27) (hR : RD c.length ds D) {i : Nat} (hi : i < c.length) : p_keep (up c).1 ds (nI i) = kp c D i := by
  have some_iff : ∀ j, j < c.length → (¬ nAt ds (nI j) = -1 ↔ (D j).isSome = true) := by
    intro j hj
    rw [hR.2.1 j hj]
    cases hv : D j with
    | none => simp [oI]
    | some h =>
      have h60 := (hR.2.2 j h hv).2
      have : ¬ oI (some h) = -1 := nI_ne_neg (by omega)
      simp [this]
  unfold p_keep kp
  cases i with
  | zero =>
    have e : nI 0 - 1 = -1 := by decide
    have e1 : nAt (up c).1 (nI 0 - 1) = -1 := by rw [e]; exact nAt_neg (by decide)
    rw [e1]
    have := some_iff 0 hi
    cases hv : (D 0).isSome <;> simp [hv, this] <;> simp_all
  | succ i =>
    have e : nI (i + 1) - 1 = nI i := nI_pred i
    rw [e]
    have e1 : nAt (up c).1 (nI i) = nb c i := (up_at (c := c) (i := i) (by omega)).1
    rw [e1]
    have h1 := some_iff i (by omega)
    have h2 := some_iff (i + 1) hi
    simp only [Nat.add_sub_cancel]
    by_cases a : nb c i = 18 <;> cases hv : (D i).isSome <;> cases hv2 : (D (i + 1)).isSome <;> first | (simp_all; done) | (simp_all; rfl)
theorem copy_ref {c : List II} {D : Nat → Option Nat} {ds : List Int32} (hc : c.length < 2 ^ 27) (hR : RD c.length ds D) : ∀ (d i : Nat) (acc : List II), i + d = c.length → p_copy (up c).1 (up c).2 ds d i (up acc).1 (up acc).2 = up (acc ++ rst c D d i) := by
  intro d
  induction d with
  | zero => intro i acc _; simp [p_copy, rst]
  | succ d ih =>
    intro i acc hi
    obtain ⟨e1, e2⟩ := up_at (c := c) (i := i) (by omega)
    rw [p_copy, rst, keep_ref hc hR (by omega), e1, e2]
    by_cases hk : kp c D i = true
    · rw [if_pos hk, if_pos hk]
      have e3 : ((up acc).1 ++ [(q0 c i).1], (up acc).2 ++ [(q0 c i).2]) = up (acc ++ [q0 c i]) := by simp [up]
      have := ih (i + 1) (acc ++ [q0 c i]) (by omega)
      rw [← e3] at this
      rw [this, List.append_assoc]
      rfl
    · rw [if_neg hk, if_neg hk]
      exact ih (i + 1) acc (by omega)
theorem rst_sub {c : List II} {D : Nat → Option Nat} : ∀ (d i : Nat), i + d = c.length → List.Sublist (rst c D d i) (c.drop i) := by
  intro d
  induction d with
  | zero => intro i _; exact List.nil_sublist _
  | succ d ih =>
    intro i hi
    rw [rst, drop_q0 (by omega : i < c.length)]
    split
    · exact List.Sublist.cons₂ _ (ih (i + 1) (by omega))
    · exact List.Sublist.cons _ (ih (i + 1) (by omega))
def hhD (c : List II) (D : Nat → Option Nat) (k : Int32) : Nat := match plc c k with
  | some j => (D j).getD 0
  | none => 0
def rhoD (c : List II) (ρ : Nat → Nat) (k : Int32) : Nat := match plc c k with
  | some j => ρ j
  | none => 0
def CD (c : List II) (D : Nat → Option Nat) (ρ : Nat → Nat) : CP := (hhD c D, rhoD c ρ, ((List.range c.length).map ρ).sum + 1)
theorem tk_num : ∀ j, j < 21 → tkn (nI j) = ([0, 0, 1, 1, 2, 1, 1, 2, 2, 2, 0, 1, 1, 0, 1, 0, 1, 0, 1, 2, 3] : List Nat).getD j 0 ∧ gvn (nI j) = ([1, 1, 0, 1, 0, 1, 1, 1, 1, 2, 0, 0, 0, 0, 0, 0, 0, 0, 1, 1, 0] : List Nat).getD j 0 := by decide
/-- those that only change the row -/
theorem ck_fall {C : CP} {h B : Nat} {n k : Int32} (hn : ¬ n < 0 ∧ n < 21) (h1 : ¬ (n = 10 ∨ n = 11 ∨ n = 12 ∨ n = 13 ∨ n = 15 ∨ n = 16 ∨ n = 17 ∨ n = 18)) (ht : tkn n ≤ h) (hg : h - tkn n + gvn n ≤ 60) : ck C (some (h, B, false)) (n, k) = some (some (h - tkn n + gvn n, B, false)) := by
  obtain ⟨j, hj, rfl⟩ := nI_of hn.1
  have hj2 : j < 21 := (nI_ltI hj (by omega)).mp hn.2
  obtain ⟨t1, t2⟩ := tk_num j hj2
  have hcases : j = 0 ∨ j = 1 ∨ j = 2 ∨ j = 3 ∨ j = 4 ∨ j = 5 ∨ j = 6 ∨ j = 7 ∨ j = 8 ∨ j = 9 ∨ j = 10 ∨ j = 11 ∨ j = 12 ∨ j = 13 ∨ j = 14 ∨ j = 15 ∨ j = 16 ∨ j = 17 ∨ j = 18 ∨ j = 19 ∨ j = 20 := by omega
  rcases hcases with rfl | rfl | rfl | rfl | rfl | rfl | rfl | rfl | rfl | rfl | rfl | rfl | rfl | rfl | rfl | rfl | rfl | rfl | rfl | rfl | rfl
  · have t1 : tkn (nI 0) = 0 := t1
    have t2 : gvn (nI 0) = 1 := t2
    rw [t1] at ht
    rw [t1, t2] at hg ⊢
    have e := ck_0 (C := C) (d := h) (B := B) (k := k)
    rw [if_pos (by omega)] at e
    refine Eq.trans e ?_
    rw [show h - 0 + 1 = h + 1 by omega]
  · have t1 : tkn (nI 1) = 0 := t1
    have t2 : gvn (nI 1) = 1 := t2
    rw [t1] at ht
    rw [t1, t2] at hg ⊢
    have e := ck_1 (C := C) (d := h) (B := B) (k := k)
    rw [if_pos (by omega)] at e
    refine Eq.trans e ?_
    rw [show h - 0 + 1 = h + 1 by omega]
  · have t1 : tkn (nI 2) = 1 := t1
    have t2 : gvn (nI 2) = 0 := t2
    rw [t1] at ht
    rw [t1, t2] at hg ⊢
    have e := ck_2 (C := C) (d := h) (B := B) (k := k)
    rw [if_pos (by omega)] at e
    refine Eq.trans e ?_
    rw [show h - 1 + 0 = h - 1 by omega]
  · have t1 : tkn (nI 3) = 1 := t1
    have t2 : gvn (nI 3) = 1 := t2
    rw [t1] at ht
    rw [t1, t2] at hg ⊢
    have e := ck_3 (C := C) (d := h) (B := B) (k := k)
    rw [if_pos (by omega)] at e
    refine Eq.trans e ?_
    rw [show h - 1 + 1 = h by omega]
  · have t1 : tkn (nI 4) = 2 := t1
    have t2 : gvn (nI 4) = 0 := t2
    rw [t1] at ht
    rw [t1, t2] at hg ⊢
    have e := ck_4 (C := C) (d := h) (B := B) (k := k)
    rw [if_pos (by omega)] at e
    refine Eq.trans e ?_
    rw [show h - 2 + 0 = h - 2 by omega]
  · have t1 : tkn (nI 5) = 1 := t1
    have t2 : gvn (nI 5) = 1 := t2
    rw [t1] at ht
    rw [t1, t2] at hg ⊢
    have e := ck_5 (C := C) (d := h) (B := B) (k := k)
    rw [if_pos (by omega)] at e
    refine Eq.trans e ?_
    rw [show h - 1 + 1 = h by omega]
  · have t1 : tkn (nI 6) = 1 := t1
    have t2 : gvn (nI 6) = 1 := t2
    rw [t1] at ht
    rw [t1, t2] at hg ⊢
    have e := ck_6 (C := C) (d := h) (B := B) (k := k)
    rw [if_pos (by omega)] at e
    refine Eq.trans e ?_
    rw [show h - 1 + 1 = h by omega]
  · have t1 : tkn (nI 7) = 2 := t1
    have t2 : gvn (nI 7) = 1 := t2
    rw [t1] at ht
    rw [t1, t2] at hg ⊢
    have e := ck_7 (C := C) (d := h) (B := B) (k := k)
    rw [if_pos (by omega)] at e
    refine Eq.trans e ?_
    rw [show h - 2 + 1 = h - 1 by omega]
  · have t1 : tkn (nI 8) = 2 := t1
    have t2 : gvn (nI 8) = 1 := t2
    rw [t1] at ht
    rw [t1, t2] at hg ⊢
    have e := ck_8 (C := C) (d := h) (B := B) (k := k)
    rw [if_pos (by omega)] at e
    refine Eq.trans e ?_
    rw [show h - 2 + 1 = h - 1 by omega]
  · have t1 : tkn (nI 9) = 2 := t1
    have t2 : gvn (nI 9) = 2 := t2
    rw [t1] at ht
    rw [t1, t2] at hg ⊢
    have e := ck_9 (C := C) (d := h) (B := B) (k := k)
    rw [if_pos (by omega)] at e
    refine Eq.trans e ?_
    rw [show h - 2 + 2 = h by omega]
  · exact absurd (by decide) h1
  · exact absurd (by decide) h1
  · exact absurd (by decide) h1
  · exact absurd (by decide) h1
  · have t1 : tkn (nI 14) = 1 := t1
    have t2 : gvn (nI 14) = 0 := t2
    rw [t1] at ht
    rw [t1, t2] at hg ⊢
    have e := ck_14 (C := C) (d := h) (B := B) (k := k)
    rw [if_pos (by omega)] at e
    refine Eq.trans e ?_
    rw [show h - 1 + 0 = h - 1 by omega]
  · exact absurd (by decide) h1
  · exact absurd (by decide) h1
  · exact absurd (by decide) h1
  · exact absurd (by decide) h1
  · have t1 : tkn (nI 19) = 2 := t1
    have t2 : gvn (nI 19) = 1 := t2
    rw [t1] at ht
    rw [t1, t2] at hg ⊢
    have e := ck_19 (C := C) (d := h) (B := B) (k := k)
    rw [if_pos (by omega)] at e
    refine Eq.trans e ?_
    rw [show h - 2 + 1 = h - 1 by omega]
  · have t1 : tkn (nI 20) = 3 := t1
    have t2 : gvn (nI 20) = 0 := t2
    rw [t1] at ht
    rw [t1, t2] at hg ⊢
    have e := ck_20 (C := C) (d := h) (B := B) (k := k)
    rw [if_pos (by omega)] at e
    refine Eq.trans e ?_
    rw [show h - 3 + 0 = h - 3 by omega]
