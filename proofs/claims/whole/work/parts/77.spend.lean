/-! THE JUDGE: rounds spend -/
theorem free_ref {c : List II} {D : Nat → Option Nat} {ds : List Int32} (hc : c.length < 2 ^ 27) (hR : RD c.length ds D) {j : Nat} (hj : j < 2 ^ 30) : j_free (up c).1 ds (nI j) = fre' c D j := by
  unfold j_free fre'
  have e1 : nAt (up c).1 (nI j) = nb c j := (up_at (c := c) (i := j) (by omega)).1
  rw [e1]
  rcases Nat.lt_or_ge j c.length with w | w
  · rw [hR.2.1 j w]
    cases hv : D j with
    | none => simp [oI]
    | some h =>
      have h60 := (hR.2.2 j h hv).2
      have : ¬ oI (some h) = -1 := nI_ne_neg (by omega)
      simp [this]
  · have h1 : nAt ds (nI j) = -1 := by
      rw [nAt_nat (by omega), List.getD_eq_getElem?_getD, List.getElem?_eq_none (by rw [hR.1]; exact w)]; rfl
    have h2 : D j = none := by
      cases hv : D j with
      | none => rfl
      | some h => have := (hR.2.2 j h hv).1; omega
    rw [h1, h2]; simp
theorem free_lt {c : List II} {D : Nat → Option Nat} {ds : List Int32} (hR : RD c.length ds D) {j : Nat} (hj : fre' c D j = true) : j < c.length := by
  cases hv : D j with
  | none => simp [fre', hv] at hj
  | some h => exact (hR.2.2 j h hv).1
theorem inc_ref {c : List II} {D : Nat → Option Nat} {ds cm : List Int32} {f : Nat → Nat} {o : Option Nat} (hc : c.length < 2 ^ 27) (hR : RD c.length ds D) (hl : cm.length = c.length) (hf : ∀ j, fre' c D j = true → nAt cm (nI j) = nI (f j)) (ho : ∀ j, o = some j → j < 2 ^ 30) :
    (j_inc (up c).1 ds cm (oI o)).length = c.length ∧ ∀ j, fre' c D j = true → nAt (j_inc (up c).1 ds cm (oI o)) (nI j) = nI (f j + (if o = some j then 1 else 0)) := by
  cases o with
  | none =>
    have e : j_free (up c).1 ds (oI none) = false := by
      unfold j_free
      have : nAt ds (oI none) = -1 := nAt_neg (by decide)
      rw [this]; simp
    unfold j_inc
    rw [e]
    exact ⟨hl, fun j hj => by simpa using hf j hj⟩
  | some e =>
    have he := ho e rfl
    have hoI : oI (some e) = nI e := rfl
    rw [hoI]
    unfold j_inc
    rw [free_ref hc hR he]
    by_cases hfe : fre' c D e = true
    · rw [if_pos hfe, hf e hfe, nI_1]
      have hel := free_lt hR hfe
      refine ⟨by rw [nSet_len]; exact hl, fun j hj => ?_⟩
      have hjl := free_lt hR hj
      rw [nAt_setq (by rw [hl]; exact hjl) (by rw [hl]; omega)]
      by_cases e2 : e = j
      · subst e2; rw [if_pos rfl, if_pos rfl]
      · rw [if_neg (fun w => e2 ((nI_eq (by omega) (by omega)).mp w)), if_neg (fun w => e2 (Option.some.inj w)), hf j hj]; rfl
    · rw [if_neg hfe]
      refine ⟨hl, fun j hj => ?_⟩
      have : ¬ e = j := fun w => hfe (by rw [w]; exact hj)
      simpa [this] using hf j hj
theorem ind_succ {c : List II} {S : Nat → Bool} {i j : Nat} : ind c (List.range (i + 1)) S j = ind c (List.range i) S j + (if S i = true then cE c i j else 0) := by
  unfold ind
  rw [List.range_succ, List.map_append, List.sum_append]
  simp
theorem cnt_ref {c : List II} {D : Nat → Option Nat} {ds pl : List Int32} (hS : SD c pl) (hc : c.length < 2 ^ 27) (hR : RD c.length ds D) : ∀ (d i : Nat) (cm : List Int32) (x : Nat), i + d = c.length → cm.length = c.length → (∀ j, fre' c D j = true → nAt cm (nI j) = nI (ind c (List.range i) (fre' c D) j)) → x = ((List.range i).filter (fre' c D)).length →
    (j_cnt (up c).1 (up c).2 pl ds d i cm (nI x)).1.length = c.length ∧ (∀ j, fre' c D j = true → nAt (j_cnt (up c).1 (up c).2 pl ds d i cm (nI x)).1 (nI j) = nI (ind c (List.range c.length) (fre' c D) j)) ∧ (j_cnt (up c).1 (up c).2 pl ds d i cm (nI x)).2 = nI ((List.range c.length).filter (fre' c D)).length := by
  intro d
  induction d with
  | zero =>
    intro i cm x hi hl hf hx
    have e : i = c.length := by omega
    subst e
    exact ⟨hl, hf, by rw [← hx]; rfl⟩
  | succ d ih =>
    intro i cm x hi hl hf hx
    rw [j_cnt, free_ref hc hR (by omega)]
    by_cases hfi : fre' c D i = true
    · rw [if_pos hfi, next_ref (by omega), goal_ref hS (by omega) (by omega), nI_1]
      obtain ⟨a1, a2⟩ := inc_ref (o := nxt c i) hc hR hl hf (fun j hj => by have := nxt_lt hj; omega)
      obtain ⟨b1, b2⟩ := inc_ref (f := fun j => ind c (List.range i) (fre' c D) j + (if nxt c i = some j then 1 else 0)) (o := gol c i) hc hR a1 a2 (fun j hj => by have := gol_lt hj; omega)
      refine ih (i + 1) _ (x + 1) (by omega) b1 (fun j hj => ?_) ?_
      · rw [b2 j hj, ind_succ, if_pos hfi]
        unfold cE
        rw [Nat.add_assoc]
      · rw [List.range_succ, List.filter_append, List.length_append, ← hx]
        simp [hfi]
    · rw [if_neg hfi]
      refine ih (i + 1) _ x (by omega) hl (fun j hj => ?_) ?_
      · rw [hf j hj, ind_succ, if_neg hfi, Nat.add_zero]
      · rw [List.range_succ, List.filter_append, List.length_append, ← hx]
        simp [hfi]
theorem roots_ref {c : List II} {D : Nat → Option Nat} {ds cm : List Int32} {f : Nat → Nat} (hc : c.length < 2 ^ 27) (hR : RD c.length ds D) (hf : ∀ j, fre' c D j = true → nAt cm (nI j) = nI (f j) ∧ f j < 2 ^ 30) : ∀ (d i : Nat) (W : List Nat), i + d = c.length → W.Nodup → (∀ j ∈ W, j < i) →
    ∃ W2 : List Nat, j_roots (up c).1 ds cm d i (W.map nI) = W2.map nI ∧ W2.Nodup ∧ ∀ j, j ∈ W2 ↔ j ∈ W ∨ (i ≤ j ∧ j < c.length ∧ fre' c D j = true ∧ f j = 0) := by
  intro d
  induction d with
  | zero =>
    intro i W hi hn _
    exact ⟨W, rfl, hn, fun j => ⟨fun w => .inl w, fun w => w.resolve_right (fun q => by omega)⟩⟩
  | succ d ih =>
    intro i W hi hn hW
    rw [j_roots, free_ref hc hR (by omega)]
    by_cases c0 : fre' c D i = true ∧ nAt cm (nI i) = 0
    · rw [if_pos c0]
      obtain ⟨v1, v2⟩ := hf i c0.1
      have hz : f i = 0 := by
        rw [v1] at c0
        refine Decidable.not_not.mp (fun w => nI_ne0 (show 0 < f i by omega) (by omega) c0.2)
      have e : W.map nI ++ [nI i] = (W ++ [i]).map nI := by simp
      rw [e]
      obtain ⟨W2, h1, h2, h3⟩ := ih (i + 1) (W ++ [i]) (by omega) (by
        rw [List.nodup_append]
        exact ⟨hn, by simp, fun x hx y hy => by rw [List.mem_singleton.mp hy]; have := hW x hx; omega⟩) (fun j hj => by
        rcases List.mem_append.mp hj with w | w
        · have := hW j w; omega
        · rw [List.mem_singleton.mp w]; omega)
      refine ⟨W2, h1, h2, fun j => ?_⟩
      rw [h3 j]
      constructor
      · rintro (w | ⟨w1, w2⟩)
        · rcases List.mem_append.mp w with w | w
          · exact .inl w
          · rw [List.mem_singleton.mp w]; exact .inr ⟨Nat.le_refl _, by omega, c0.1, hz⟩
        · exact .inr ⟨by omega, w2⟩
      · rintro (w | ⟨w1, w2⟩)
        · exact .inl (List.mem_append_left _ w)
        · by_cases e2 : j = i
          · subst e2; exact .inl (by simp)
          · exact .inr ⟨by omega, w2⟩
    · rw [if_neg c0]
      obtain ⟨W2, h1, h2, h3⟩ := ih (i + 1) W (by omega) hn (fun j hj => by have := hW j hj; omega)
      refine ⟨W2, h1, h2, fun j => ?_⟩
      rw [h3 j]
      constructor
      · rintro (w | ⟨w1, w2⟩)
        · exact .inl w
        · exact .inr ⟨by omega, w2⟩
      · rintro (w | ⟨w1, w2, w3, w4⟩)
        · exact .inl w
        · by_cases e2 : j = i
          · subst e2
            exact absurd ⟨w3, by rw [(hf j w3).1, w4]; rfl⟩ c0
          · exact .inr ⟨by omega, w2, w3, w4⟩
theorem nI_dec (q : Nat) : nI (q + 1) + (-1) = nI q := by
  have : nI (q + 1) + (-1) = nI (q + 1) - 1 := (Int32.sub_eq_add_neg (nI (q + 1)) 1).symm
  rw [this]
  exact nI_pred q
theorem peel_ref {c : List II} {D : Nat → Option Nat} {ds pl : List Int32} (hS : SD c pl) (hc : c.length < 2 ^ 27) (hR : RD c.length ds D) : ∀ (d : Nat) (cm : List Int32) (W Rm : List Nat), PI c D cm W Rm → c.length ≤ Rm.length + d →
    ((j_peel (up c).1 (up c).2 pl ds d cm (W.map nI) (nI (((List.range c.length).filter (fre' c D)).length - Rm.length))).2.2 = 0 ↔ Acy c D) := by
  have hlt : ∀ j, fre' c D j = true → j < c.length := fun j hj => free_lt hR hj
  have hF : ((List.range c.length).filter (fre' c D)).length ≤ c.length := by
    have := List.length_filter_le (fre' c D) (List.range c.length)
    rwa [List.length_range] at this
  have fin : ∀ cm Rm, PI c D cm [] Rm → (nI (((List.range c.length).filter (fre' c D)).length - Rm.length) = 0 ↔ Acy c D) := by
    intro cm Rm hp
    obtain ⟨h1, h2⟩ := peel_end hlt hp
    rw [← h1]
    constructor
    · intro h
      refine Decidable.not_not.mp (fun w => nI_ne0 (show 0 < ((List.range c.length).filter (fre' c D)).length - Rm.length by omega) (by omega) h)
    · intro h
      rw [h, Nat.sub_self]; rfl
  intro d
  induction d with
  | zero =>
    intro cm W Rm hp hd
    have hl := nodup_len hp.2.2.2.1 (fun i hi => hlt i (hp.2.2.2.2.1 i hi))
    rw [List.length_append] at hl
    have hW : W = [] := List.length_eq_zero_iff.mp (by omega)
    subst hW
    exact fin cm Rm hp
  | succ d ih =>
    intro cm W Rm hp hd
    rw [j_peel]
    by_cases hW : W = []
    · subst hW
      rw [if_neg (show ¬ (0 : Int32) < nI (([] : List Nat).map nI).length by decide)]
      exact fin cm Rm hp
    · have hsp : W = W.dropLast ++ [W.getLast hW] := (List.dropLast_concat_getLast hW).symm
      have hl := nodup_len hp.2.2.2.1 (fun i hi => hlt i (hp.2.2.2.2.1 i hi))
      rw [List.length_append] at hl
      have hpos : 0 < W.length := List.length_pos_iff.mpr hW
      have e1 : nLast (W.map nI) = nI (W.getLast hW) := by
        unfold nLast
        rw [List.getLast?_map, List.getLast?_eq_some_getLast hW]
        rfl
      have e2 : (W.map nI).dropLast = W.dropLast.map nI := (List.map_dropLast ..).symm
      rw [if_pos (show (0 : Int32) < nI (W.map nI).length by rw [List.length_map, ← nI_0]; exact nI_lt hpos (by omega))]
      simp only
      rw [e1, e2]
      generalize W.getLast hW = i at *
      rw [hsp] at hp
      generalize W.dropLast = W' at *
      have hfi : fre' c D i = true := hp.2.2.2.2.1 i (by simp)
      have hil := hlt i hfi
      rw [next_ref (by omega), goal_ref hS hil (by omega)]
      obtain ⟨W2, g1, g2⟩ := peel_step hS hc hR hp
      rw [g2]
      have hle : (i :: Rm).length ≤ ((List.range c.length).filter (fre' c D)).length := by
        have hn := g1.2.2.2.1
        rw [List.nodup_append] at hn
        exact List.Nodup.length_le_of_subset hn.1 (fun x hx => by
          have := g1.2.2.2.2.1 x (List.mem_append_left _ hx)
          exact List.mem_filter.mpr ⟨List.mem_range.mpr (hlt x this), this⟩)
      rw [List.length_cons] at hle
      have e3 : nI (((List.range c.length).filter (fre' c D)).length - Rm.length) + (-1) = nI (((List.range c.length).filter (fre' c D)).length - (i :: Rm).length) := by
        obtain ⟨q, hq⟩ : ∃ q, ((List.range c.length).filter (fre' c D)).length - Rm.length = q + 1 := ⟨((List.range c.length).filter (fre' c D)).length - Rm.length - 1, by omega⟩
        rw [hq, nI_dec, List.length_cons]
        congr 1
        omega
      rw [e3]
      exact ih _ W2 (i :: Rm) g1 (by rw [List.length_cons]; omega)
