/-! WHAT GOES ROUND spends: taking away again and again what nothing left comes to -/
def fre' (c : List II) (D : Nat → Option Nat) (i : Nat) : Bool := (D i).isSome && decide (¬ nb c i = 15)
def cE (c : List II) (i j : Nat) : Nat := (if nxt c i = some j then 1 else 0) + (if gol c i = some j then 1 else 0)
abbrev Acy (c : List II) (D : Nat → Option Nat) : Prop := ∃ ρ : Nat → Nat, ∀ i j, fre' c D i = true → fre' c D j = true → cE c i j ≠ 0 → ρ j < ρ i
def ind (c : List II) (l : List Nat) (S : Nat → Bool) (j : Nat) : Nat := (l.map fun i => if S i = true then cE c i j else 0).sum
theorem ind_rm {c : List II} {S : Nat → Bool} {i j : Nat} (hS : S i = true) : ∀ l : List Nat, l.Nodup → i ∈ l → ind c l S j = ind c l (fun q => S q && decide (q ≠ i)) j + cE c i j := by
  intro l
  induction l with
  | nil => intro _ h; cases h
  | cons a l ih =>
    intro hn hi
    have hn' := List.nodup_cons.mp hn
    unfold ind at ih ⊢
    rw [List.map_cons, List.map_cons, List.sum_cons, List.sum_cons]
    by_cases e : a = i
    · subst e
      have h0 : (l.map fun q => if S q = true then cE c q j else 0) = l.map fun q => if (S q && decide (q ≠ a)) = true then cE c q j else 0 := by
        refine List.map_congr_left (fun q hq => ?_)
        have : q ≠ a := fun w => hn'.1 (by rw [← w]; exact hq)
        simp [this]
      rw [h0, if_pos hS]
      simp
      omega
    · have hi' : i ∈ l := (List.mem_cons.mp hi).resolve_left (fun w => e w.symm)
      rw [ih hn'.2 hi']
      simp only [ne_eq, e, not_false_eq_true, decide_true, Bool.and_true]
      omega
theorem ind_zero {c : List II} {S : Nat → Bool} {j : Nat} : ∀ l : List Nat, ind c l S j = 0 ↔ ∀ i ∈ l, S i = true → cE c i j = 0 := by
  intro l
  induction l with
  | nil => exact ⟨fun _ i hi => (by cases hi), fun _ => rfl⟩
  | cons a l ih =>
    unfold ind at ih ⊢
    rw [List.map_cons, List.sum_cons]
    constructor
    · intro h i hi hs
      rcases List.mem_cons.mp hi with rfl | hi
      · rw [if_pos hs] at h; omega
      · exact ih.mp (by omega) i hi hs
    · intro h
      have h1 := ih.mpr (fun i hi hs => h i (List.mem_cons_of_mem _ hi) hs)
      have h2 : (if S a = true then cE c a j else 0) = 0 := by
        split
        · rename_i w; exact h a (List.mem_cons_self ..) w
        · rfl
      omega
theorem ind_le {c : List II} {S : Nat → Bool} {j : Nat} : ∀ l : List Nat, ind c l S j ≤ 2 * l.length := by
  intro l
  induction l with
  | nil => exact Nat.le_refl _
  | cons a l ih =>
    unfold ind at ih ⊢
    rw [List.map_cons, List.sum_cons, List.length_cons]
    have : (if S a = true then cE c a j else 0) ≤ 2 := by
      unfold cE
      repeat' split
      all_goals omega
    omega
/-- one comer less -/
theorem dec_ref {c : List II} {D : Nat → Option Nat} {ds cm : List Int32} {W : List Nat} {f : Nat → Nat} {o : Option Nat} (hc : c.length < 2 ^ 27) (hR : RD c.length ds D) (hl : cm.length = c.length) (hf : ∀ j, fre' c D j = true → nAt cm (nI j) = nI (f j) ∧ f j < 2 ^ 30) (ho : ∀ j, o = some j → j < 2 ^ 30 ∧ (fre' c D j = true → 1 ≤ f j)) :
    (j_dec (up c).1 ds cm (oI o)).length = c.length ∧ (∀ j, fre' c D j = true → nAt (j_dec (up c).1 ds cm (oI o)) (nI j) = nI (f j - (if o = some j then 1 else 0)) ∧ f j - (if o = some j then 1 else 0) < 2 ^ 30) ∧
    ∃ N : List Nat, j_decW (up c).1 ds cm (W.map nI) (oI o) = (W ++ N).map nI ∧ (∀ j, j ∈ N ↔ o = some j ∧ fre' c D j = true ∧ f j = 1) ∧ N.Nodup := by
  have hlt : ∀ j, fre' c D j = true → j < c.length := by
    intro j hj
    cases hv : D j with
    | none => simp [fre', hv] at hj
    | some h => exact (hR.2.2 j h hv).1
  have hfree : ∀ j, j < 2 ^ 30 → j_free (up c).1 ds (nI j) = fre' c D j := by
    intro j hj
    unfold j_free fre'
    have e1 : nAt (up c).1 (nI j) = nb c j := (up_at (c := c) (i := j) (by omega)).1
    rw [e1]
    rcases Nat.lt_or_ge j c.length with w | w
    · rw [hR.2.1 j w]
      cases hv : D j with
      | none => simp [oI]
      | some h =>
        have h60 := (hR.2.2 j h hv).2
        have : ¬ oI (some h) = -1 := nI_ne_neg (by omega)
        simp [this]
    · have h1 : nAt ds (nI j) = -1 := by
        rw [nAt_nat (by omega), List.getD_eq_getElem?_getD, List.getElem?_eq_none (by rw [hR.1]; exact w)]; rfl
      have h2 : D j = none := by
        cases hv : D j with
        | none => rfl
        | some h => have := (hR.2.2 j h hv).1; omega
      rw [h1, h2]; simp
  cases o with
  | none =>
    have e : j_free (up c).1 ds (oI none) = false := by
      unfold j_free
      have : nAt ds (oI none) = -1 := nAt_neg (by decide)
      rw [this]; simp
    unfold j_decW j_dec
    rw [e]
    refine ⟨hl, fun j hj => ⟨?_, ?_⟩, [], by simp, fun j => ⟨fun w => (by cases w), fun w => (by cases w.1)⟩, by simp⟩
    · simpa using (hf j hj).1
    · simpa using (hf j hj).2
  | some e =>
    obtain ⟨he, he2⟩ := ho e rfl
    have hoI : oI (some e) = nI e := rfl
    rw [hoI]
    by_cases hfe : fre' c D e = true
    · have hj := hfree e he
      rw [hfe] at hj
      obtain ⟨v1, v2⟩ := hf e hfe
      have v3 := he2 hfe
      have hel := hlt e hfe
      have hpred : nI (f e) - 1 = nI (f e - 1) := by
        obtain ⟨q, hq⟩ : ∃ q, f e = q + 1 := ⟨f e - 1, by omega⟩
        rw [hq]; exact nI_pred q
      have hdec : j_dec (up c).1 ds cm (nI e) = nSet cm (nI e) (nI (f e - 1)) := by
        unfold j_dec; rw [if_pos hj, v1, hpred]
      rw [hdec]
      refine ⟨by rw [nSet_len]; exact hl, fun j hjf => ?_, ?_⟩
      · have hjl := hlt j hjf
        rw [nAt_setq (by rw [hl]; exact hjl) (by rw [hl]; omega)]
        by_cases e2 : e = j
        · subst e2; rw [if_pos rfl, if_pos rfl]; exact ⟨rfl, by omega⟩
        · rw [if_neg (fun w => e2 ((nI_eq (by omega) (by omega)).mp w)), if_neg (fun w => e2 (Option.some.inj w))]
          exact hf j hjf
      · unfold j_decW
        rw [hdec, nAt_setq (by rw [hl]; exact hel) (by rw [hl]; omega), if_pos rfl]
        by_cases e0 : f e = 1
        · refine ⟨[e], ?_, fun j => ⟨fun w => ?_, fun w => ?_⟩, by simp⟩
          · rw [if_pos ⟨hj, by rw [e0]; rfl⟩]; simp
          · rw [List.mem_singleton.mp w]; exact ⟨rfl, hfe, e0⟩
          · cases w.1; simp
        · refine ⟨[], ?_, fun j => ⟨fun w => (by cases w), fun w => ?_⟩, by simp⟩
          · rw [if_neg (fun w => nI_ne0 (show 0 < f e - 1 by omega) (by omega) w.2)]; simp
          · cases w.1; exact absurd w.2.2 e0
    · have hj := hfree e he
      rw [show fre' c D e = false from by simpa using hfe] at hj
      unfold j_decW j_dec
      rw [hj]
      refine ⟨hl, fun j hjf => ?_, [], by simp, fun j => ⟨fun w => (by cases w), fun w => (by cases w.1; exact absurd w.2.1 hfe)⟩, by simp⟩
      have : ¬ e = j := fun w => hfe (by rw [w]; exact hjf)
      have h9 := hf j hjf
      simpa [this] using h9
