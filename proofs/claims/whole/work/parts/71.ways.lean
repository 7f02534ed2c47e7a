/-! THE WAYS of a code, and how long the row is on them -/
def nb (c : List II) (i : Nat) : Int32 := (q0 c i).1
def ar (c : List II) (i : Nat) : Int32 := (q0 c i).2
def plc (c : List II) (k : Int32) : Option Nat := (after c k).map fun t => c.length - t.length - 1
def nxt (c : List II) (i : Nat) : Option Nat := if t_ends (nb c i) = true then none else if nb c i = 18 then some (i + 2) else some (i + 1)
def gol (c : List II) (i : Nat) : Option Nat := if nb c i = 18 then plc c (ar c (i + 1)) else if t_goes (nb c i) = true then plc c (ar c i) else none
def tkn (n : Int32) : Nat := (j_taken n).toNatClampNeg
def gvn (n : Int32) : Nat := (j_given n).toNatClampNeg
def succs (c : List II) (i h : Nat) : List (Nat × Nat) := (nxt c i).toList.map (fun j => (j, h - tkn (nb c i) + gvn (nb c i))) ++ (gol c i).toList.map (fun j => (j, h - tkn (nb c i)))
/-- reached in so many steps, with a row so long -/
def Rch (c : List II) : Nat → Nat → Nat → Prop
  | 0, i, h => i = 0 ∧ h = 0
  | n + 1, j, h' => ∃ i h, Rch c n i h ∧ (j, h') ∈ succs c i h
/-- a length for each place, all ways agree -/
abbrev OkH (c : List II) (H : Nat → Option Nat) : Prop := H 0 = some 0 ∧ ∀ i h, H i = some h → tkn (nb c i) ≤ h ∧ ∀ p ∈ succs c i h, p.1 < c.length ∧ p.2 ≤ 60 ∧ H p.1 = some p.2
theorem rch_ok {c : List II} {H : Nat → Option Nat} (ok : OkH c H) : ∀ (n i h : Nat), Rch c n i h → H i = some h := by
  intro n
  induction n with
  | zero => rintro i h ⟨rfl, rfl⟩; exact ok.1
  | succ n ih =>
    rintro j h' ⟨i, h, hr, hs⟩
    exact ((ok.2 i h (ih i h hr)).2 _ hs).2.2
abbrev WS : Type := (Nat → Option Nat) × List Nat
def aArr (n : Nat) (s : WS) (j h : Nat) : WS × Bool :=
  if n ≤ j then (s, false) else match s.1 j with
    | none => ((fun q => if q = j then some h else s.1 q, s.2 ++ [j]), true)
    | some h' => (s, decide (h' = h))
def aOpt (n : Nat) (s : WS) (o : Option Nat) (h : Nat) : WS × Bool := match o with
  | none => (s, true)
  | some j => aArr n s j h
def aLv (c : List II) (s : WS) (i h : Nat) : WS × Bool :=
  if h < tkn (nb c i) ∨ 60 < h - tkn (nb c i) + gvn (nb c i) then (s, false) else
  if (aOpt c.length s (nxt c i) (h - tkn (nb c i) + gvn (nb c i))).2 = false then ((aOpt c.length s (nxt c i) (h - tkn (nb c i) + gvn (nb c i))).1, false)
  else aOpt c.length (aOpt c.length s (nxt c i) (h - tkn (nb c i) + gvn (nb c i))).1 (gol c i) (h - tkn (nb c i))
def aWays (c : List II) : Nat → WS → WS × Bool
  | 0, s => (s, true)
  | d + 1, s => if s.2 = [] then (s, true) else
    if (aLv c (s.1, s.2.dropLast) (s.2.getLast?.getD 0) ((s.1 (s.2.getLast?.getD 0)).getD 0)).2 = true then aWays c d (aLv c (s.1, s.2.dropLast) (s.2.getLast?.getD 0) ((s.1 (s.2.getLast?.getD 0)).getD 0)).1
    else ((aLv c (s.1, s.2.dropLast) (s.2.getLast?.getD 0) ((s.1 (s.2.getLast?.getD 0)).getD 0)).1, false)
/-- one arrival: what was known stays; the new one waits -/
theorem aOpt_ok {n : Nat} {s : WS} {o : Option Nat} {h : Nat} (ht : (aOpt n s o h).2 = true) :
    (∀ q v, s.1 q = some v → (aOpt n s o h).1.1 q = some v) ∧ (∀ j, o = some j → j < n ∧ (aOpt n s o h).1.1 j = some h) ∧
    (∀ q v, (aOpt n s o h).1.1 q = some v → s.1 q = some v ∨ (o = some q ∧ v = h ∧ s.1 q = none)) ∧
    ((aOpt n s o h).1.2 = s.2 ∨ ∃ j, o = some j ∧ s.1 j = none ∧ (aOpt n s o h).1.2 = s.2 ++ [j]) ∧ (∀ q, o = some q → s.1 q = none → q ∈ (aOpt n s o h).1.2) := by
  cases o with
  | none =>
    exact ⟨fun q v w => w, fun j w => (by cases w), fun q v w => .inl w, .inl rfl, fun q w => (by cases w)⟩
  | some j =>
    simp only [aOpt] at ht ⊢
    unfold aArr at ht ⊢
    by_cases c : n ≤ j
    · rw [if_pos c] at ht; cases ht
    rw [if_neg c] at ht ⊢
    cases hj : s.1 j with
    | none =>
      rw [hj] at ht
      simp only
      refine ⟨fun q v w => ?_, fun j' w => ?_, fun q v w => ?_, .inr ⟨j, rfl, hj, rfl⟩, fun q w _ => ?_⟩
      · by_cases e : q = j
        · subst e; rw [hj] at w; cases w
        · rw [if_neg e]; exact w
      · cases w; exact ⟨by omega, by rw [if_pos rfl]⟩
      · by_cases e : q = j
        · subst e; rw [if_pos rfl] at w; cases w; exact .inr ⟨rfl, rfl, hj⟩
        · rw [if_neg e] at w; exact .inl w
      · cases w; simp
    | some h' =>
      rw [hj] at ht
      have ht : h' = h := of_decide_eq_true ht
      subst ht
      exact ⟨fun q v w => w, fun j' w => (by cases w; exact ⟨by omega, hj⟩), fun q v w => .inl w, .inl rfl, fun q w w2 => (by cases w; rw [hj] at w2; cases w2)⟩
theorem aOpt_no {n : Nat} {s : WS} {o : Option Nat} {h : Nat} (ht : (aOpt n s o h).2 = false) : ∃ j, o = some j ∧ (n ≤ j ∨ ∃ h', s.1 j = some h' ∧ h' ≠ h) := by
  cases o with
  | none => cases ht
  | some j =>
    simp only [aOpt] at ht
    unfold aArr at ht
    refine ⟨j, rfl, ?_⟩
    by_cases c : n ≤ j
    · exact .inl c
    rw [if_neg c] at ht
    cases hj : s.1 j with
    | none => rw [hj] at ht; cases ht
    | some h' =>
      rw [hj] at ht
      exact .inr ⟨h', rfl, of_decide_eq_false ht⟩
theorem mem_succs {c : List II} {i h : Nat} {p : Nat × Nat} : p ∈ succs c i h ↔ (nxt c i = some p.1 ∧ p.2 = h - tkn (nb c i) + gvn (nb c i)) ∨ (gol c i = some p.1 ∧ p.2 = h - tkn (nb c i)) := by
  obtain ⟨a, b⟩ := p
  unfold succs
  rw [List.mem_append, List.mem_map, List.mem_map]
  constructor
  · rintro (⟨j, h1, h2⟩ | ⟨j, h1, h2⟩)
    · cases h2; exact .inl ⟨by simpa using h1, rfl⟩
    · cases h2; exact .inr ⟨by simpa using h1, rfl⟩
  · rintro (⟨h1, h2⟩ | ⟨h1, h2⟩)
    · exact .inl ⟨a, by simpa using h1, by simp only at h2; rw [h2]⟩
    · exact .inr ⟨a, by simpa using h1, by simp only at h2; rw [h2]⟩
/-- Pr: what has been left already -/
abbrev WI (c : List II) (s : WS) (Pr : List Nat) : Prop :=
  (∀ i h, s.1 i = some h → (∃ k, Rch c k i h) ∧ i < c.length ∧ h ≤ 60) ∧ (∀ i h, s.1 i = some h → i ∈ s.2 ∨ i ∈ Pr) ∧
  (∀ i ∈ Pr, ∃ h, s.1 i = some h ∧ tkn (nb c i) ≤ h ∧ ∀ p ∈ succs c i h, p.1 < c.length ∧ p.2 ≤ 60 ∧ s.1 p.1 = some p.2) ∧
  (Pr ++ s.2).Nodup ∧ (∀ i ∈ s.2, s.1 i ≠ none) ∧ s.1 0 = some 0
theorem nodup_len {l : List Nat} {n : Nat} (h : l.Nodup) (hl : ∀ i ∈ l, i < n) : l.length ≤ n := by
  have := List.Nodup.length_le_of_subset (l₂ := List.range n) h (fun i hi => List.mem_range.mpr (hl i hi))
  rwa [List.length_range] at this
