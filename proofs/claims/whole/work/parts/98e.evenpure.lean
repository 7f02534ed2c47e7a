/-! WHAT THE REFERENCE FINDS EVEN, step by step -/
def sD (D : Nat → Option Nat) (o : Option Nat) (h : Nat) : Nat → Option Nat := fun q => if o = some q then some h else D q
abbrev bad (n : Nat) (D : Nat → Option Nat) (o : Option Nat) (h : Nat) : Prop := ∃ j, o = some j ∧ (n ≤ j ∨ 60 < h ∨ (D j ≠ none ∧ D j ≠ some h))
abbrev EvI (c : List II) (D : Nat → Option Nat) (Pr : List Nat) : Prop := ∃ W, WI c (D, W) Pr
theorem aOpt_sD {n : Nat} {s : WS} {o : Option Nat} {h : Nat} (ht : (aOpt n s o h).2 = true) : (aOpt n s o h).1.1 = sD s.1 o h := by
  cases o with
  | none => funext q; simp [aOpt, sD]
  | some j =>
    simp only [aOpt] at ht ⊢
    unfold aArr at ht ⊢
    by_cases c : n ≤ j
    · rw [if_pos c] at ht; cases ht
    rw [if_neg c] at ht ⊢
    cases hj : s.1 j with
    | none =>
      funext q
      simp only [sD, Option.some.injEq]
      by_cases e : q = j
      · subst e; simp
      · rw [if_neg e, if_neg (fun w => e w.symm)]
    | some h' =>
      rw [hj] at ht
      have ht : h' = h := of_decide_eq_true ht
      subst ht
      funext q
      simp only [sD, Option.some.injEq]
      by_cases e : j = q
      · subst e; rw [if_pos rfl]; exact hj
      · rw [if_neg e]
theorem aOpt_nb {n : Nat} {s : WS} {o : Option Nat} {h : Nat} (hb : ¬ bad n s.1 o h) : (aOpt n s o h).2 = true := by
  cases ht : (aOpt n s o h).2 with
  | true => rfl
  | false =>
    obtain ⟨j, e, w⟩ := aOpt_no ht
    refine absurd ⟨j, e, ?_⟩ hb
    rcases w with w | ⟨h', e1, e2⟩
    · exact .inl w
    · exact .inr (.inr ⟨by rw [e1]; simp, by rw [e1]; simpa using e2⟩)
theorem aOpt_bad {n : Nat} {s : WS} {o : Option Nat} {h : Nat} (hb : bad n s.1 o h) (h6 : ¬ 60 < h) : (aOpt n s o h).2 = false := by
  obtain ⟨j, e, w⟩ := hb
  cases ht : (aOpt n s o h).2 with
  | false => rfl
  | true =>
    obtain ⟨a1, a2, -⟩ := aOpt_ok ht
    exfalso
    obtain ⟨p1, p2⟩ := a2 j e
    rcases w with w | w | ⟨w1, w2⟩
    · omega
    · exact h6 w
    · cases hv : s.1 j with
      | none => exact w1 hv
      | some v =>
        have := a1 j v hv
        rw [p2] at this
        exact w2 (hv.trans this.symm)
theorem ev_last {c : List II} {D : Nat → Option Nat} {Pr : List Nat} {i h : Nat} (hE : EvI c D Pr) (hi : D i = some h) (hp : i ∉ Pr) : ∃ W, WI c (D, W ++ [i]) Pr := by
  obtain ⟨W, w1, w2, w3, w4, w5, w6⟩ := hE
  have hm : i ∈ W := (w2 i h hi).resolve_right hp
  have pm : List.Perm W (W.erase i ++ [i]) := (List.perm_cons_erase hm).trans (List.perm_append_singleton i (W.erase i)).symm
  refine ⟨W.erase i, w1, fun k q hk => ?_, w3, ?_, fun k hk => w5 k (pm.mem_iff.mpr hk), w6⟩
  · rcases w2 k q hk with w | w
    · exact .inl (pm.mem_iff.mp w)
    · exact .inr w
  · exact (pm.append_left Pr).nodup_iff.mp w4
theorem nxt_none {c : List II} {i : Nat} (h : nxt c i = none) : t_ends (nb c i) = true := by
  unfold nxt at h
  by_cases e : t_ends (nb c i) = true
  · exact e
  · rw [if_neg e] at h; split at h <;> cases h
theorem ev_sml {c : List II} {D : Nat → Option Nat} {Pr : List Nat} (hE : EvI c D Pr) : ∀ k q, D k = some q → k < c.length ∧ q ≤ 60 := by
  obtain ⟨W, w1, -⟩ := hE
  exact fun k q hk => (w1 k q hk).2
theorem ev_step {c : List II} {D : Nat → Option Nat} {Pr : List Nat} {i h : Nat} (hE : EvI c D Pr) (hi : D i = some h) (hp : i ∉ Pr) :
    (h < tkn (nb c i) → ¬ ∃ H, OkH c H) ∧
    (tkn (nb c i) ≤ h → bad c.length D (nxt c i) (h - tkn (nb c i) + gvn (nb c i)) → ¬ ∃ H, OkH c H) ∧
    (tkn (nb c i) ≤ h → ¬ bad c.length D (nxt c i) (h - tkn (nb c i) + gvn (nb c i)) →
      (bad c.length (sD D (nxt c i) (h - tkn (nb c i) + gvn (nb c i))) (gol c i) (h - tkn (nb c i)) → ¬ ∃ H, OkH c H) ∧
      (¬ bad c.length (sD D (nxt c i) (h - tkn (nb c i) + gvn (nb c i))) (gol c i) (h - tkn (nb c i)) → EvI c (sD (sD D (nxt c i) (h - tkn (nb c i) + gvn (nb c i))) (gol c i) (h - tkn (nb c i))) (i :: Pr))) := by
  have h60 := (ev_sml hE i h hi).2
  obtain ⟨W, hW⟩ := ev_last hE hi hp
  obtain ⟨s1, s2⟩ := aLv_step hW hi
  unfold aLv at s1 s2
  refine ⟨fun hl => ?_, fun hl hb => ?_, fun hl hb => ?_⟩
  · rw [if_pos (.inl hl)] at s2; exact s2 rfl
  · by_cases c0 : 60 < h - tkn (nb c i) + gvn (nb c i)
    · rw [if_pos (.inr c0)] at s2; exact s2 rfl
    · rw [if_neg (by omega), if_pos (aOpt_bad hb c0)] at s2; exact s2 rfl
  · have c0 : ¬ 60 < h - tkn (nb c i) + gvn (nb c i) := by
      intro w
      cases hn : nxt c i with
      | none => rw [ends_gv (nxt_none hn)] at w; omega
      | some j => exact hb ⟨j, hn, .inr (.inl w)⟩
    have t1 := aOpt_nb (s := (D, W)) hb
    rw [if_neg (by omega), if_neg (by rw [t1]; decide)] at s1 s2
    have e1 := aOpt_sD t1
    refine ⟨fun hb2 => ?_, fun hb2 => ?_⟩
    · rw [← e1] at hb2
      exact s2 (aOpt_bad hb2 (by omega))
    · rw [← e1] at hb2 ⊢
      have t2 := aOpt_nb hb2
      rw [← aOpt_sD t2]
      exact ⟨_, s1 t2⟩
theorem ev_init {c : List II} (hn : 0 < c.length) : EvI c (fun q => if q = 0 then some 0 else none) [] := by
  refine ⟨[0], fun i h hi => ?_, fun i h hi => ?_, fun i hi => absurd hi (List.not_mem_nil), by simp, fun i hi => ?_, rfl⟩
  · by_cases e : i = 0
    · subst e
      have : h = 0 := by simpa using hi.symm
      subst this
      exact ⟨⟨0, ⟨rfl, rfl⟩⟩, hn, by omega⟩
    · simp [e] at hi
  · by_cases e : i = 0
    · subst e; exact .inl (by simp)
    · simp [e] at hi
  · rw [List.mem_singleton.mp hi]; simp
theorem ev_end {c : List II} {D : Nat → Option Nat} {Pr : List Nat} (hE : EvI c D Pr) (h : ∀ k, k < c.length → D k ≠ none → k ∈ Pr) : OkH c D ∧ Sound c D := by
  obtain ⟨W, w1, w2, w3, w4, w5, w6⟩ := hE
  simp only at w1 w3 w6
  refine ⟨⟨w6, fun i q hi => ?_⟩, w1⟩
  obtain ⟨h', e1, e2, e3⟩ := w3 i (h i (w1 i q hi).2.1 (by rw [hi]; simp))
  rw [hi] at e1
  cases e1
  exact ⟨e2, e3⟩
theorem ev_len {c : List II} {D : Nat → Option Nat} {Pr : List Nat} (hE : EvI c D Pr) : Pr.length ≤ c.length := by
  obtain ⟨W, w1, w2, w3, w4, w5, w6⟩ := hE
  refine nodup_len (List.nodup_append.mp w4).1 (fun i hi => ?_)
  obtain ⟨h, e, -⟩ := w3 i hi
  exact (w1 i h e).2.1
theorem i32_mv (a b d : Int32) : a + (b - d) = a - d + b := by
  rw [Int32.sub_eq_add_neg, Int32.sub_eq_add_neg, Int32.add_assoc, Int32.add_comm b]
theorem ev_x4 {n : Int32} {h : Nat} (h16 : ¬ n = 16) (hl : tkn n ≤ h) : nI h + mgv n = nI (h - tkn n + gvn n) := by
  unfold mgv
  rw [if_neg h16, i32_mv, nI_subn hl, nI_add]
theorem nxt_n16 {c : List II} {i j : Nat} (h : nxt c i = some j) : ¬ nb c i = 16 := by
  intro w
  unfold nxt at h
  rw [w, if_pos (by decide)] at h
  cases h
theorem gol_n16 {c : List II} {i j : Nat} (h : gol c i = some j) : ¬ nb c i = 16 := by
  intro w
  unfold gol at h
  rw [w, if_neg (by decide), if_neg (by decide)] at h
  cases h
theorem gol_gv {c : List II} {i j : Nat} (h : gol c i = some j) : (nb c i = 18 → gvn (nb c i) = 1) ∧ (¬ nb c i = 18 → gvn (nb c i) = 0) := by
  refine ⟨fun w => by rw [w]; decide, fun w => ?_⟩
  unfold gol at h
  rw [if_neg w] at h
  by_cases e : t_goes (nb c i) = true
  · have e : nb c i = 10 ∨ nb c i = 11 ∨ nb c i = 12 := by simpa [t_goes] using e
    rcases e with e | e | e <;> (rw [e]; decide)
  · rw [if_neg e] at h; cases h
theorem nxt_le {c : List II} {i j : Nat} (h : nxt c i = some j) : j ≤ i + 2 := by
  unfold nxt at h
  split at h
  · cases h
  · split at h <;> (cases h; omega)
/-- the array against the heights, after an arrival -/
theorem he_sD {n : Nat} {he : Nat → Int32} {D : Nat → Option Nat} {o : Option Nat} {j h : Nat} (hD : ∀ k, k < n → he k = oI (D k)) (ho : o = some j) : ∀ k, k < n → upd he j (nI h) k = oI (sD D o h k) := by
  intro k hk
  subst ho
  by_cases e : k = j
  · subst e
    have : sD D (some k) h k = some h := by simp [sD]
    rw [this]
    simp [upd, oI]
  · have : sD D (some j) h k = D k := by
      have : ¬ j = k := fun w => e w.symm
      simp [sD, this]
    rw [this, ← hD k hk]
    simp [upd, e]
theorem bad_iff {n : Nat} {he : Nat → Int32} {D : Nat → Option Nat} {o : Option Nat} {j h : Nat} (hD : ∀ k, k < n → he k = oI (D k)) (hs : ∀ k q, D k = some q → q ≤ 60) (hh : h < 2 ^ 30) (ho : o = some j) : bad n D o h ↔ (n ≤ j ∨ 60 < h ∨ (¬ he j = -1 ∧ ¬ he j = nI h)) := by
  subst ho
  have key : j < n → ((D j ≠ none ∧ D j ≠ some h) ↔ (¬ he j = -1 ∧ ¬ he j = nI h)) := by
    intro hj
    rw [hD j hj, oI_none (fun q hq => by have := hs j q hq; omega)]
    cases hv : D j with
    | none => simp
    | some q =>
      have := hs j q hv
      have e : nI q = nI h ↔ q = h := ⟨fun w => by have := congrArg Int32.toNatClampNeg w; rwa [nI_clamp (by omega), nI_clamp (by omega)] at this, fun w => by rw [w]⟩
      simp [oI, e]
  constructor
  · rintro ⟨j', e, w⟩
    cases e
    by_cases hj : n ≤ j
    · exact .inl hj
    · rcases w with w | w | w
      · exact .inl w
      · exact .inr (.inl w)
      · exact .inr (.inr ((key (by omega)).mp w))
  · intro w
    refine ⟨j, rfl, ?_⟩
    by_cases hj : n ≤ j
    · exact .inl hj
    · rcases w with w | w | w
      · exact .inl w
      · exact .inr (.inl w)
      · exact .inr (.inr ((key (by omega)).mpr w))
