/-! THE JUDGE goes along the ways so -/
def oI (o : Option Nat) : Int32 := match o with
  | none => -1
  | some j => nI j
abbrev RD (n : Nat) (ds : List Int32) (D : Nat → Option Nat) : Prop := ds.length = n ∧ (∀ i, i < n → nAt ds (nI i) = oI (D i)) ∧ ∀ i h, D i = some h → i < n ∧ h ≤ 60
theorem arr_ref {n : Nat} {ds : List Int32} {s : WS} {j h : Nat} (hR : RD n ds s.1) (hn : n < 2 ^ 28) (hj : j < 2 ^ 30) (hh : h ≤ 60) :
    RD n (j_arrD ds (nI j) (nI h)) (aArr n s j h).1.1 ∧ j_arrW ds (s.2.map nI) (nI j) = (aArr n s j h).1.2.map nI ∧ j_arrB ds (nI j) (nI h) = (aArr n s j h).2 := by
  obtain ⟨r1, r2, r3⟩ := hR
  unfold aArr
  by_cases c : n ≤ j
  · rw [if_pos c]
    have hlt : ¬ nI j < nI ds.length := by rw [r1]; exact nI_nlt c (by omega)
    have e : j_new ds (nI j) = false := by simp [j_new, hlt]
    unfold j_arrB j_arrD j_arrW
    rw [e]
    exact ⟨⟨r1, r2, r3⟩, rfl, by simp [hlt]⟩
  · rw [if_neg c]
    have hlt : nI j < nI ds.length := by rw [r1]; exact nI_lt (by omega) (by omega)
    have hv := r2 j (by omega)
    cases hD : s.1 j with
    | none =>
      rw [hD] at hv
      have hv : nAt ds (nI j) = -1 := hv
      have e : j_new ds (nI j) = true := by simp [j_new, hlt, hv]
      unfold j_arrB j_arrD j_arrW
      rw [e]
      refine ⟨⟨by rw [if_pos rfl, nSet_len]; exact r1, fun i hi => ?_, fun i v hi => ?_⟩, by simp, ?_⟩
      · rw [if_pos rfl, nAt_setq (by omega) (by omega)]
        simp only
        by_cases e2 : i = j
        · subst e2; rw [if_pos rfl, if_pos rfl]; rfl
        · rw [if_neg (fun w => e2 ((nI_eq (by omega) (by omega)).mp w).symm), if_neg e2]; exact r2 i hi
      · simp only at hi
        by_cases e2 : i = j
        · subst e2; rw [if_pos rfl] at hi; cases hi; exact ⟨by omega, hh⟩
        · rw [if_neg e2] at hi; exact r3 i v hi
      · rw [if_pos rfl, nAt_setq (by omega) (by omega), if_pos rfl]
        simp [hlt]
    | some h' =>
      rw [hD] at hv
      have hv : nAt ds (nI j) = nI h' := hv
      have h60 := (r3 j h' hD).2
      have e : j_new ds (nI j) = false := by
        simp only [j_new, hv, decide_eq_false_iff_not]
        exact fun w => nI_ne_neg (by omega) w.2
      unfold j_arrB j_arrD j_arrW
      rw [e]
      refine ⟨⟨r1, r2, r3⟩, rfl, ?_⟩
      simp only [Bool.false_eq_true, if_false, hv, hlt, true_and]
      by_cases e2 : h' = h
      · subst e2; simp
      · rw [decide_eq_false e2, decide_eq_false (fun w => e2 ((nI_eq (by omega) (by omega)).mp w))]
theorem oI_none {o : Option Nat} (h : ∀ j, o = some j → j < 2 ^ 30) : oI o = -1 ↔ o = none := by
  cases o with
  | none => exact ⟨fun _ => rfl, fun _ => rfl⟩
  | some j => exact ⟨fun w => absurd w (nI_ne_neg (by have := h j rfl; omega)), fun w => by cases w⟩
theorem opt_ref {n : Nat} {ds : List Int32} {s : WS} {o : Option Nat} {h : Nat} (hR : RD n ds s.1) (hn : n < 2 ^ 28) (ho : ∀ j, o = some j → j < 2 ^ 30) (hh : h ≤ 60) :
    RD n (if oI o = -1 then ds else j_arrD ds (oI o) (nI h)) (aOpt n s o h).1.1 ∧ (if oI o = -1 then s.2.map nI else j_arrW ds (s.2.map nI) (oI o)) = (aOpt n s o h).1.2.map nI ∧ ((¬ oI o = -1 ∧ j_arrB ds (oI o) (nI h) = false) ↔ (aOpt n s o h).2 = false) := by
  cases o with
  | none =>
    have e : oI none = -1 := rfl
    rw [if_pos e, if_pos e]
    exact ⟨hR, rfl, ⟨fun w => absurd e w.1, fun w => by cases w⟩⟩
  | some j =>
    have e : ¬ oI (some j) = -1 := nI_ne_neg (by have := ho j rfl; omega)
    rw [if_neg e, if_neg e]
    obtain ⟨a1, a2, a3⟩ := arr_ref hR hn (ho j rfl) hh
    exact ⟨a1, a2, ⟨fun w => a3.symm.trans w.2, fun w => ⟨e, a3.trans w⟩⟩⟩
theorem tk_all : ∀ j, j < 21 → (j_taken (nI j) = nI (tkn (nI j)) ∧ tkn (nI j) ≤ 3) ∧ j_given (nI j) = nI (gvn (nI j)) ∧ gvn (nI j) ≤ 2 := by decide
theorem sub_neg : ∀ h, h < 3 → ∀ t, t ≤ 3 → h < t → nI h - nI t < 0 := by decide
abbrev SD (c : List II) (pl : List Int32) : Prop := fitA c ∧ (∀ i, nb c i = 18 → nb c (i + 1) = 12) ∧ ∀ k, ¬ k < 0 → k < 100 → nAt pl k = oI (plc c k)
theorem plc_lt {c : List II} {k : Int32} {j : Nat} (h : plc c k = some j) : j < c.length := by
  unfold plc at h
  cases ha : after c k with
  | none => rw [ha] at h; cases h
  | some t =>
    rw [ha] at h
    obtain ⟨p, hp, -⟩ := after_split ha
    have h : c.length - t.length - 1 = j := Option.some.inj h
    have : c.length = p.length + 1 + t.length := by rw [hp]; simp; omega
    omega
theorem nb_mem {c : List II} {i : Nat} (h : i < c.length) : (nb c i, ar c i) ∈ c := by
  have : q0 c i ∈ c.drop i := by rw [drop_q0 h]; exact List.mem_cons_self ..
  exact List.mem_of_mem_drop this
theorem nb_out {c : List II} {i : Nat} (h : c.length ≤ i) : nb c i = -1 := by unfold nb; rw [q0_out h]
theorem next_ref {c : List II} {i : Nat} (hi : i < 2 ^ 28) : j_next (up c).1 (nI i) = oI (nxt c i) := by
  obtain ⟨e1, -⟩ := up_at (c := c) (i := i) (by omega)
  unfold j_next nxt
  rw [e1]
  show (if t_ends (nb c i) = true then (-1 : Int32) else if nb c i = 18 then nI i + 2 else nI i + 1) = _
  split
  · rfl
  split
  · show nI i + 2 = nI (i + 2); exact nI_add i 2
  · show nI i + 1 = nI (i + 1); exact nI_1 i
theorem goal_ref {c : List II} {pl : List Int32} (hS : SD c pl) {i : Nat} (hi : i < c.length) (hc : c.length < 2 ^ 28) : j_goal (up c).1 (up c).2 pl (nI i) = oI (gol c i) := by
  obtain ⟨hf, h18, hpl⟩ := hS
  obtain ⟨e1, e2⟩ := up_at (c := c) (i := i) (by omega)
  obtain ⟨e3, e4⟩ := up_at1 (c := c) (i := i) (by omega)
  unfold j_goal gol
  rw [e1, e2, e4]
  show (if nb c i = 18 then nAt pl (ar c (i + 1)) else if t_goes (nb c i) = true then nAt pl (ar c i) else -1) = _
  by_cases c1 : nb c i = 18
  · rw [if_pos c1, if_pos c1]
    have h12 := h18 i c1
    have hlt : i + 1 < c.length := by
      rcases Nat.lt_or_ge (i + 1) c.length with w | w
      · exact w
      · rw [nb_out w] at h12; exact absurd h12 (by decide)
    have hfi : fit2 (nb c (i + 1)) (ar c (i + 1)) := hf _ (nb_mem hlt)
    rw [h12] at hfi
    have := hfi.2.2.2.2 (.inl rfl)
    exact hpl _ this.1 this.2
  · rw [if_neg c1, if_neg c1]
    by_cases c2 : t_goes (nb c i) = true
    · rw [if_pos c2, if_pos c2]
      have hfi : fit2 (nb c i) (ar c i) := hf _ (nb_mem hi)
      have := hfi.2.2.2.2 (.inl c2)
      exact hpl _ this.1 this.2
    · rw [if_neg c2, if_neg c2]; rfl
theorem gol_lt {c : List II} {i j : Nat} (h : gol c i = some j) : j < c.length := by
  unfold gol at h
  split at h
  · exact plc_lt h
  split at h
  · exact plc_lt h
  · cases h
theorem nxt_lt {c : List II} {i j : Nat} (h : nxt c i = some j) : j ≤ i + 2 := by
  unfold nxt at h
  split at h
  · cases h
  split at h <;> cases h <;> omega
theorem leave_ref {c : List II} {pl ds : List Int32} {s : WS} {i h : Nat} (hS : SD c pl) (hc : c.length < 2 ^ 27) (hR : RD c.length ds s.1) (hi : i < c.length) (hih : s.1 i = some h) :
    RD c.length (j_leave (up c).1 (up c).2 pl ds (s.2.map nI) (nI i)).1 (aLv c s i h).1.1 ∧ (j_leave (up c).1 (up c).2 pl ds (s.2.map nI) (nI i)).2.1 = (aLv c s i h).1.2.map nI ∧ (j_leave (up c).1 (up c).2 pl ds (s.2.map nI) (nI i)).2.2 = (aLv c s i h).2 := by
  obtain ⟨e1, -⟩ := up_at (c := c) (i := i) (by omega)
  have e1 : nAt (up c).1 (nI i) = nb c i := e1
  have hfi : fit2 (nb c i) (ar c i) := hS.1 _ (nb_mem hi)
  have h60 := (hR.2.2 i h hih).2
  have hd : nAt ds (nI i) = nI h := by rw [hR.2.1 i hi, hih]; rfl
  obtain ⟨jn, hjn, hjn2⟩ : ∃ j : Nat, j < 21 ∧ nb c i = nI j := by
    obtain ⟨j, hj, e⟩ := nI_of hfi.1.1
    refine ⟨j, ?_, e⟩
    have := hfi.1.2
    rw [e] at this
    exact (nI_ltI hj (by omega) (b := 21)).mp this
  obtain ⟨⟨t1, t2⟩, t3, t4⟩ := tk_all jn hjn
  rw [← hjn2] at t1 t2 t3 t4
  unfold j_leave aLv
  rw [e1, if_pos hfi.1, hd, t1, t3, next_ref (by omega), goal_ref hS hi (by omega)]
  simp only
  by_cases c0 : h < tkn (nb c i)
  · rw [if_pos (.inl (sub_neg h (by omega) _ t2 c0)), if_pos (.inl c0)]
    exact ⟨hR, rfl, rfl⟩
  have es : nI h - nI (tkn (nb c i)) = nI (h - tkn (nb c i)) := nI_subn (by omega)
  rw [es, nI_add]
  by_cases c1 : 60 < h - tkn (nb c i) + gvn (nb c i)
  · rw [if_pos (.inr ((nI_ltI (by omega) (by omega) (a := 60)).mpr c1)), if_pos (.inr c1)]
    exact ⟨hR, rfl, rfl⟩
  have n1 : ¬ (nI (h - tkn (nb c i)) < 0 ∨ 60 < nI (h - tkn (nb c i) + gvn (nb c i))) := by
    rintro (w | w)
    · exact nI_pos (by omega) w
    · exact c1 ((nI_ltI (by omega) (by omega) (a := 60)).mp w)
  have n2 : ¬ (h < tkn (nb c i) ∨ 60 < h - tkn (nb c i) + gvn (nb c i)) := by
    rintro (w | w)
    · exact c0 w
    · exact c1 w
  rw [if_neg n1, if_neg n2]
  obtain ⟨b1, b2, b3⟩ := opt_ref (o := nxt c i) (h := h - tkn (nb c i) + gvn (nb c i)) hR (by omega) (fun j hj => by have := nxt_lt hj; omega) (by omega)
  by_cases c2 : ¬ oI (nxt c i) = -1 ∧ j_arrB ds (oI (nxt c i)) (nI (h - tkn (nb c i) + gvn (nb c i))) = false
  · rw [if_pos c2, if_pos (b3.mp c2)]
    exact ⟨b1, b2, rfl⟩
  have n3 : ¬ (aOpt c.length s (nxt c i) (h - tkn (nb c i) + gvn (nb c i))).2 = false := fun w => c2 (b3.mpr w)
  rw [if_neg c2, if_neg n3, b2]
  obtain ⟨d1, d2, d3⟩ := opt_ref (s := (aOpt c.length s (nxt c i) (h - tkn (nb c i) + gvn (nb c i))).1) (o := gol c i) (h := h - tkn (nb c i)) b1 (by omega) (fun j hj => by have := gol_lt hj; omega) (by omega)
  by_cases c3 : oI (gol c i) = -1
  · rw [if_pos c3] at d1 d2 ⊢
    have hno : gol c i = none := (oI_none (fun j hj => by have := gol_lt hj; omega)).mp c3
    rw [hno]
    rw [hno] at d1 d2
    exact ⟨b1, rfl, rfl⟩
  · rw [if_neg c3] at d1 d2 ⊢
    refine ⟨d1, d2, ?_⟩
    cases hb : (aOpt c.length (aOpt c.length s (nxt c i) (h - tkn (nb c i) + gvn (nb c i))).1 (gol c i) (h - tkn (nb c i))).2 with
    | false => exact (d3.mpr hb).2
    | true =>
      cases hx : j_arrB (if oI (nxt c i) = -1 then ds else j_arrD ds (oI (nxt c i)) (nI (h - tkn (nb c i) + gvn (nb c i)))) (oI (gol c i)) (nI (h - tkn (nb c i))) with
      | true => rfl
      | false => have := d3.mp ⟨c3, hx⟩; rw [hb] at this; cases this
