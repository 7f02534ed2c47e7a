/-! THE JUDGE's peeling ends with nothing left just where every round spends -/
def SR (c : List II) (D : Nat → Option Nat) (Rm : List Nat) (i : Nat) : Bool := fre' c D i && decide (i ∉ Rm)
abbrev PI (c : List II) (D : Nat → Option Nat) (cm : List Int32) (W Rm : List Nat) : Prop :=
  cm.length = c.length ∧ (∀ j, fre' c D j = true → nAt cm (nI j) = nI (ind c (List.range c.length) (SR c D Rm) j)) ∧
  (∀ j, fre' c D j = true → (ind c (List.range c.length) (SR c D Rm) j = 0 ↔ j ∈ W ∨ j ∈ Rm)) ∧
  (Rm ++ W).Nodup ∧ (∀ i ∈ Rm ++ W, fre' c D i = true) ∧ ∀ j ∈ Rm, ∀ i, fre' c D i = true → cE c i j ≠ 0 → i ∈ Rm ∧ Rm.idxOf j < Rm.idxOf i
theorem peel_step {c : List II} {D : Nat → Option Nat} {ds pl cm : List Int32} {W Rm : List Nat} {i : Nat} (hS : SD c pl) (hc : c.length < 2 ^ 27) (hR : RD c.length ds D) (hp : PI c D cm (W ++ [i]) Rm) :
    ∃ W2, PI c D (j_dec (up c).1 ds (j_dec (up c).1 ds cm (oI (nxt c i))) (oI (gol c i))) W2 (i :: Rm) ∧ j_decW (up c).1 ds (j_dec (up c).1 ds cm (oI (nxt c i))) (j_decW (up c).1 ds cm (W.map nI) (oI (nxt c i))) (oI (gol c i)) = W2.map nI := by
  obtain ⟨k0, k1, k2, k3, k4, k5⟩ := hp
  have hlt : ∀ j, fre' c D j = true → j < c.length := by
    intro j hj
    cases hv : D j with
    | none => simp [fre', hv] at hj
    | some h => exact (hR.2.2 j h hv).1
  have hfi : fre' c D i = true := k4 i (by simp)
  have hil := hlt i hfi
  have hnd := k3
  rw [← List.append_assoc, List.nodup_append] at hnd
  have hiR : i ∉ Rm := fun w => hnd.2.2 i (List.mem_append_left _ w) i (by simp) rfl
  have hiW : i ∉ W := fun w => hnd.2.2 i (List.mem_append_right _ w) i (by simp) rfl
  have hSi : SR c D Rm i = true := by simp [SR, hfi, hiR]
  have eS : (fun q => SR c D Rm q && decide (q ≠ i)) = SR c D (i :: Rm) := by
    funext q
    unfold SR
    by_cases e : q = i
    · simp [e]
    · simp [e]
  have rm : ∀ j, ind c (List.range c.length) (SR c D Rm) j = ind c (List.range c.length) (SR c D (i :: Rm)) j + cE c i j := by
    intro j
    rw [ind_rm (i := i) hSi (List.range c.length) List.nodup_range (List.mem_range.mpr hil), eS]
  have hb : ∀ j, ind c (List.range c.length) (SR c D Rm) j < 2 ^ 30 := fun j => by
    have := ind_le (c := c) (S := SR c D Rm) (j := j) (List.range c.length)
    rw [List.length_range] at this
    omega
  generalize hf : ind c (List.range c.length) (SR c D Rm) = f at *
  generalize hf2 : ind c (List.range c.length) (SR c D (i :: Rm)) = f2 at *
  have hfi0 : f i = 0 := (k2 i hfi).mpr (.inl (by simp))
  obtain ⟨a1, a2, N1, a3, a4, a5⟩ := dec_ref (W := W) (f := f) (o := nxt c i) hc hR k0 (fun j hj => ⟨k1 j hj, hb j⟩) (fun j hj => ⟨by have := nxt_lt hj; omega, fun _ => by
    have := rm j
    unfold cE at this
    rw [if_pos hj] at this
    omega⟩)
  rw [a3]
  obtain ⟨b1, b2, N2, b3, b4, b5⟩ := dec_ref (W := W ++ N1) (f := fun j => f j - (if nxt c i = some j then 1 else 0)) (o := gol c i) hc hR a1 a2 (fun j hj => ⟨by have := gol_lt hj; omega, fun _ => by
    have := rm j
    unfold cE at this
    rw [if_pos hj] at this
    omega⟩)
  rw [b3]
  have ef : ∀ j, f j - (if nxt c i = some j then 1 else 0) - (if gol c i = some j then 1 else 0) = f2 j := by
    intro j
    have := rm j
    unfold cE at this
    omega
  refine ⟨(W ++ N1) ++ N2, ⟨b1, fun j hj => ?_, fun j hj => ?_, ?_, ?_, ?_⟩, rfl⟩
  · rw [hf2, (b2 j hj).1, ef j]
  · rw [hf2]
    have hrm := rm j
    unfold cE at hrm
    have hk := k2 j hj
    constructor
    · intro h0
      by_cases e1 : nxt c i = some j
      · by_cases e2 : gol c i = some j
        · left
          refine List.mem_append_right _ ((b4 j).mpr ⟨e2, hj, ?_⟩)
          rw [if_pos e1]
          rw [if_pos e1, if_pos e2] at hrm
          omega
        · left
          refine List.mem_append_left _ (List.mem_append_right _ ((a4 j).mpr ⟨e1, hj, ?_⟩))
          rw [if_pos e1, if_neg e2] at hrm
          omega
      · by_cases e2 : gol c i = some j
        · left
          refine List.mem_append_right _ ((b4 j).mpr ⟨e2, hj, ?_⟩)
          rw [if_neg e1]
          rw [if_neg e1, if_pos e2] at hrm
          omega
        · rw [if_neg e1, if_neg e2] at hrm
          rcases hk.mp (by omega) with w | w
          · rcases List.mem_append.mp w with w | w
            · exact .inl (List.mem_append_left _ (List.mem_append_left _ w))
            · rw [List.mem_singleton.mp w]; exact .inr (List.mem_cons_self ..)
          · exact .inr (List.mem_cons_of_mem _ w)
    · rintro (w | w)
      · rcases List.mem_append.mp w with w | w
        · rcases List.mem_append.mp w with w | w
          · have := hk.mpr (.inl (List.mem_append_left _ w)); omega
          · obtain ⟨e1, -, e3⟩ := (a4 j).mp w
            rw [if_pos e1] at hrm
            omega
        · obtain ⟨e1, -, e3⟩ := (b4 j).mp w
          rw [if_pos e1] at hrm
          omega
      · rcases List.mem_cons.mp w with rfl | w
        · omega
        · have := hk.mpr (.inr w); omega
  · have pos1 : ∀ j ∈ N1, 1 ≤ f j := fun j hj => by have := ((a4 j).mp hj).2.2; omega
    have pos2 : ∀ j ∈ N2, 1 ≤ f j := fun j hj => by have := ((b4 j).mp hj).2.2; omega
    have old : ∀ j, j ∈ Rm ++ W ∨ j = i → fre' c D j = true ∧ f j = 0 := by
      rintro j (w | rfl)
      · have hm : j ∈ Rm ++ (W ++ [i]) := by rw [← List.append_assoc]; exact List.mem_append_left _ w
        have hfj := k4 j hm
        refine ⟨hfj, (k2 j hfj).mpr ?_⟩
        rcases List.mem_append.mp w with w | w
        · exact .inr w
        · exact .inl (List.mem_append_left _ w)
      · exact ⟨hfi, hfi0⟩
    have base : ((i :: Rm) ++ W).Nodup := by
      rw [List.cons_append, List.nodup_cons]
      exact ⟨fun w => by
        rcases List.mem_append.mp w with w | w
        · exact hiR w
        · exact hiW w, hnd.1⟩
    have mold : ∀ j ∈ (i :: Rm) ++ W, f j = 0 := by
      intro j hj
      rw [List.cons_append] at hj
      rcases List.mem_cons.mp hj with w | w
      · exact (old j (.inr w)).2
      · exact (old j (.inl w)).2
    have n1 : (((i :: Rm) ++ W) ++ N1).Nodup := by
      rw [List.nodup_append]
      refine ⟨base, a5, fun x hx y hy => ?_⟩
      rintro rfl
      have h1 := mold x hx
      have h2 := pos1 x hy
      omega
    have n2 : ((((i :: Rm) ++ W) ++ N1) ++ N2).Nodup := by
      rw [List.nodup_append]
      refine ⟨n1, b5, fun x hx y hy => ?_⟩
      rintro rfl
      rcases List.mem_append.mp hx with w | w
      · have h1 := mold x w
        have h2 := pos2 x hy
        omega
      · obtain ⟨e1, -, e3⟩ := (a4 x).mp w
        have h2 := ((b4 x).mp hy).2.2
        rw [if_pos e1] at h2
        omega
    rw [← List.append_assoc, ← List.append_assoc]
    exact n2
  · intro j hj
    rcases List.mem_append.mp hj with w | w
    · rcases List.mem_cons.mp w with rfl | w
      · exact hfi
      · exact k4 j (List.mem_append_left _ w)
    · rcases List.mem_append.mp w with w | w
      · rcases List.mem_append.mp w with w | w
        · exact k4 j (by rw [← List.append_assoc]; exact List.mem_append_left _ (List.mem_append_right _ w))
        · exact ((a4 j).mp w).2.1
      · exact ((b4 j).mp w).2.1
  · intro j hj q hq hcE
    rcases List.mem_cons.mp hj with rfl | hj
    · have hz : ind c (List.range c.length) (SR c D Rm) j = 0 := by rw [hf]; exact hfi0
      have hz := (ind_zero (c := c) (S := SR c D Rm) (j := j) (List.range c.length)).mp hz
      have hqR : q ∈ Rm := by
        refine Decidable.not_not.mp (fun w => ?_)
        exact hcE (hz q (List.mem_range.mpr (hlt q hq)) (by simp [SR, hq, w]))
      refine ⟨List.mem_cons_of_mem _ hqR, ?_⟩
      have hne : ¬ j = q := fun w => hiR (by rw [w]; exact hqR)
      have hb : (j == q) = false := by simpa using hne
      rw [List.idxOf_cons, List.idxOf_cons, hb]
      simp
    · obtain ⟨e1, e2⟩ := k5 j hj q hq hcE
      refine ⟨List.mem_cons_of_mem _ e1, ?_⟩
      have h1 : ¬ i = j := fun w => hiR (by rw [w]; exact hj)
      have h2 : ¬ i = q := fun w => hiR (by rw [w]; exact e1)
      have hb1 : (i == j) = false := by simpa using h1
      have hb2 : (i == q) = false := by simpa using h2
      rw [List.idxOf_cons, List.idxOf_cons, hb1, hb2]
      show Rm.idxOf j + 1 < Rm.idxOf q + 1
      omega
theorem le_sum {l : List Nat} {ρ : Nat → Nat} {j : Nat} (h : j ∈ l) : ρ j ≤ (l.map ρ).sum := by
  induction l with
  | nil => cases h
  | cons a l ih =>
    rw [List.map_cons, List.sum_cons]
    rcases List.mem_cons.mp h with rfl | h
    · omega
    · have := ih h; omega
/-- at the end -/
theorem peel_end {c : List II} {D : Nat → Option Nat} {cm : List Int32} {Rm : List Nat} (hlt : ∀ j, fre' c D j = true → j < c.length) (hp : PI c D cm [] Rm) : (((List.range c.length).filter (fre' c D)).length = Rm.length ↔ Acy c D) ∧ Rm.length ≤ ((List.range c.length).filter (fre' c D)).length := by
  obtain ⟨k0, k1, k2, k3, k4, k5⟩ := hp
  rw [List.append_nil] at k3 k4
  have hsub : ∀ j ∈ Rm, j ∈ (List.range c.length).filter (fre' c D) := fun j hj => List.mem_filter.mpr ⟨List.mem_range.mpr (hlt j (k4 j hj)), k4 j hj⟩
  have hle : Rm.length ≤ ((List.range c.length).filter (fre' c D)).length := List.Nodup.length_le_of_subset k3 hsub
  refine ⟨⟨fun he => ?_, fun ha => ?_⟩, hle⟩
  · have hall : ∀ j, fre' c D j = true → j ∈ Rm := by
      intro j hj
      refine Decidable.not_not.mp (fun w => ?_)
      have h1 : (j :: Rm).Nodup := List.nodup_cons.mpr ⟨w, k3⟩
      have h2 := List.Nodup.length_le_of_subset (l₂ := (List.range c.length).filter (fre' c D)) h1 (fun x hx => by
        rcases List.mem_cons.mp hx with rfl | hx
        · exact List.mem_filter.mpr ⟨List.mem_range.mpr (hlt x hj), hj⟩
        · exact hsub x hx)
      rw [List.length_cons] at h2
      omega
    exact ⟨fun j => Rm.idxOf j, fun i j hi hj he => (k5 j (hall j hj) i hi he).2⟩
  · obtain ⟨ρ, hρ⟩ := ha
    refine Nat.le_antisymm ?_ hle
    refine List.Nodup.length_le_of_subset (List.nodup_range.filter _) (fun j hj => ?_)
    have hj := (List.mem_filter.mp hj).2
    refine Decidable.not_not.mp (fun w => ?_)
    have up : ∀ x, fre' c D x = true → x ∉ Rm → ∃ y, fre' c D y = true ∧ y ∉ Rm ∧ ρ x < ρ y := by
      intro x hx hxR
      have hne : ¬ ind c (List.range c.length) (SR c D Rm) x = 0 := fun h0 => by
        rcases (k2 x hx).mp h0 with q | q
        · cases q
        · exact hxR q
      have hne2 := fun q => hne ((ind_zero (c := c) (S := SR c D Rm) (j := x) (List.range c.length)).mpr q)
      have : ∃ y, y ∈ List.range c.length ∧ SR c D Rm y = true ∧ cE c y x ≠ 0 := by
        refine Classical.byContradiction (fun hno => hne2 (fun y hy hs => ?_))
        exact Decidable.not_not.mp (fun q => hno ⟨y, hy, hs, q⟩)
      obtain ⟨y, -, hs, he⟩ := this
      have hs : fre' c D y = true ∧ y ∉ Rm := by simpa [SR] using hs
      exact ⟨y, hs.1, hs.2, hρ y x hs.1 hx he⟩
    have unb : ∀ m, ∃ x, fre' c D x = true ∧ x ∉ Rm ∧ m ≤ ρ x := by
      intro m
      induction m with
      | zero => exact ⟨j, hj, w, Nat.zero_le _⟩
      | succ m ih =>
        obtain ⟨x, h1, h2, h3⟩ := ih
        obtain ⟨y, g1, g2, g3⟩ := up x h1 h2
        exact ⟨y, g1, g2, by omega⟩
    obtain ⟨x, h1, -, h3⟩ := unb (((List.range c.length).map ρ).sum + 1)
    have := le_sum (ρ := ρ) (List.mem_range.mpr (hlt x h1))
    omega
