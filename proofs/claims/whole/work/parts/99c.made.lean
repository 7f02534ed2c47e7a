/-! THE TWO OBJECTS, AS MADE (written by wip/gen99c.py) -/
abbrev NK0 : List Nat := [2, 4, 7, 9, 11, 13, 16, 18, 21, 23, 26, 28, 31, 33, 35, 38, 40, 42, 48]
def S50 (z : Nat) : xS := fun k => (([some (.inr (.inr (9, [.ref (z + 1), .ref (z + 6), .ref (z + 15), .ref (z + 30), .ref (z + 37), .ref (z + 44), .null, .int 0]))), some (.inr (.inr (1, [.ref (z + 2), .ref (z + 4)]))), some (.inl []), none, some (.inl []), none, some (.inr (.inr (3, [.ref (z + 1), .ref (z + 7), .ref (z + 9), .ref (z + 11), .ref (z + 13), .int 0, .int 0]))), some (.inl []), none, some (.inl []), none, some (.inl []), none, some (.inl []), none, some (.inr (.inr (2, [.ref (z + 16), .ref (z + 18), .ref (z + 20), .ref (z + 25)]))), some (.inl []), none, some (.inl []), none, some (.inr (.inr (1, [.ref (z + 21), .ref (z + 23)]))), some (.inl []), none, some (.inl []), none, some (.inr (.inr (1, [.ref (z + 26), .ref (z + 28)]))), some (.inl []), none, some (.inl []), none, some (.inr (.inr (8, [.ref (z + 31), .ref (z + 33), .ref (z + 35), .int 0, .int 0]))), some (.inl []), none, some (.inl []), none, some (.inl []), none, some (.inr (.inr (7, [.ref (z + 38), .ref (z + 40), .ref (z + 42)]))), some (.inl []), none, some (.inl []), none, some (.inl []), none, some (.inr (.inr (5, [.ref (z + 45), .ref (z + 46)]))), some (.inr (aZ false 16)), some (.inr (aZ false 64)), some (.inr (.inr (4, [.ref (z + 44), .ref (z + 48), .int 0, .int 0, .int 0, .int 0, .int 0, .int 0]))), some (.inl []), none] : List (Option xC))[k]?).getD none
theorem S50_lt {z k : Nat} (h : (S50 z k).isSome = true) : k < 50 := by
  rcases Nat.lt_or_ge k 50 with w | w
  · exact w
  · unfold S50 at h
    rw [List.getElem?_eq_none w] at h
    cases h
abbrev hZ (z sl : Nat) (g : mx_G) : mx_H := (z, sl, fun _ => none, g)
theorem hZ_nil (z sl : Nat) (g : mx_G) : hL (hZ z sl g) [] 0 = hZ z sl g := by
  show ((z + 0, sl + 0, (fun q => if q < z then none else ([] : List mx_C)[q - z]?), g) : mx_H) = (z, sl, (fun _ => none), g)
  have e : (fun q => if q < z then none else ([] : List mx_C)[q - z]?) = (fun _ => none) := by funext q; split <;> rfl
  rw [e]; rfl
abbrev gOK (g : mx_G) (z : Nat) : Prop := ∀ k, k < 3 → g.1 k < z ∧ g.2 (g.1 k) = some (x_stat k)
theorem sum_zero {l : List Nat} {e : Nat → Nat} (h : ∀ k ∈ l, e k = 0) : (l.map e).sum = 0 := by
  induction l with
  | nil => rfl
  | cons a r ih => rw [List.map_cons, List.sum_cons, h a List.mem_cons_self, ih (fun k hk => h k (List.mem_cons_of_mem _ hk))]
set_option maxRecDepth 4000 in
theorem lt50 {k : Nat} (h : k < 50) : k = 0 ∨ k = 1 ∨ k = 2 ∨ k = 3 ∨ k = 4 ∨ k = 5 ∨ k = 6 ∨ k = 7 ∨ k = 8 ∨ k = 9 ∨ k = 10 ∨ k = 11 ∨ k = 12 ∨ k = 13 ∨ k = 14 ∨ k = 15 ∨ k = 16 ∨ k = 17 ∨ k = 18 ∨ k = 19 ∨ k = 20 ∨ k = 21 ∨ k = 22 ∨ k = 23 ∨ k = 24 ∨ k = 25 ∨ k = 26 ∨ k = 27 ∨ k = 28 ∨ k = 29 ∨ k = 30 ∨ k = 31 ∨ k = 32 ∨ k = 33 ∨ k = 34 ∨ k = 35 ∨ k = 36 ∨ k = 37 ∨ k = 38 ∨ k = 39 ∨ k = 40 ∨ k = 41 ∨ k = 42 ∨ k = 43 ∨ k = 44 ∨ k = 45 ∨ k = 46 ∨ k = 47 ∨ k = 48 ∨ k = 49 := by omega
set_option maxRecDepth 8000 in
set_option maxHeartbeats 4000000 in
theorem x50 {z sl : Nat} {g : mx_G} (hg : gOK g z) : xI z NK0 (z + 50, sl + 465) g (hL (hZ z sl g) (([] ++ zRL z) ++ zAL (z + 47) (z + 44)) (8 + 439 + 18)) (S50 z) := by
  have hNK : ∀ k ∈ NK0, k < 50 := by decide
  refine ⟨⟨by decide, fun k hk => by have := hNK k hk; show z + k < z + 50; omega, fun j hj => by have := S50_lt hj; show z + j < z + 50; omega⟩, fun _ => 0, fun k => z + k + 1, fun _ _ => 0, ?_, ?_, ?_, ?_, ?_, ?_, ?_⟩
  · rw [sum_zero (fun k _ => rfl)]; rfl
  · show sl + (8 + 439 + 18) = sl + 465 + (NK0.map fun k => 32 * 2 ^ 0 - 32).sum
    rw [sum_zero (l := NK0) (e := fun k => 32 * 2 ^ 0 - 32) (fun k _ => rfl)]
  · refine ⟨rfl, fun k hk => ⟨?_, ?_, (hg k hk).2⟩⟩
    · have := (hg k hk).1
      show g.1 k < z + 50
      omega
    · exact hL_low (hZ z sl g) _ _ (hg k hk).1
  · intro k x hk
    rw [show z + k = (hZ z sl g).1 + k from rfl, hL_at]
    rcases lt50 (S50_lt (by rw [hk]; rfl)) with rfl | rfl | rfl | rfl | rfl | rfl | rfl | rfl | rfl | rfl | rfl | rfl | rfl | rfl | rfl | rfl | rfl | rfl | rfl | rfl | rfl | rfl | rfl | rfl | rfl | rfl | rfl | rfl | rfl | rfl | rfl | rfl | rfl | rfl | rfl | rfl | rfl | rfl | rfl | rfl | rfl | rfl | rfl | rfl | rfl | rfl | rfl | rfl | rfl | rfl
    all_goals first | (cases hk; done) | (cases hk; rfl)
  · intro k xs hk
    have hk2 := lt50 (S50_lt (z := z) (k := k) (by rw [hk]; rfl))
    dsimp only
    rw [show z + k = (hZ z sl g).1 + k from rfl, hL_at, show z + k + 1 = (hZ z sl g).1 + (k + 1) from rfl, hL_at]
    have main : k ∈ NK0 ∧ xs = [] ∧ (([] ++ zRL z) ++ zAL (z + 47) (z + 44))[k]? = some (.inr (6, [.ref (z + k + 1), .int 0])) ∧ (([] ++ zRL z) ++ zAL (z + 47) (z + 44))[k + 1]? = some (aZ false 16) ∧ S50 z (k + 1) = none := by
      rcases hk2 with rfl | rfl | rfl | rfl | rfl | rfl | rfl | rfl | rfl | rfl | rfl | rfl | rfl | rfl | rfl | rfl | rfl | rfl | rfl | rfl | rfl | rfl | rfl | rfl | rfl | rfl | rfl | rfl | rfl | rfl | rfl | rfl | rfl | rfl | rfl | rfl | rfl | rfl | rfl | rfl | rfl | rfl | rfl | rfl | rfl | rfl | rfl | rfl | rfl | rfl
      all_goals first | (cases hk; done) | (cases hk; exact ⟨by decide, rfl, rfl, rfl, rfl⟩)
    obtain ⟨m1, rfl, m3, m4, m5⟩ := main
    refine ⟨m1, m3, m4, by decide, by decide, fun i v hv => (by cases hv), fun j hj w => ?_⟩
    have w : z + (k + 1) = z + j := w
    have : j = k + 1 := by omega
    subst this
    rw [m5] at hj; cases hj
  · intro k k' xs xs' _ _ w
    have w : z + k + 1 = z + k' + 1 := w
    omega
  · intro q hq
    have hq : z + 50 ≤ q := hq
    show (if q < z then none else (([] ++ zRL z) ++ zAL (z + 47) (z + 44))[q - z]?) = none
    rw [if_neg (by omega), List.getElem?_eq_none]
    show 50 ≤ q - z
    omega
/-- a new RowCode -/
abbrev m00 : MM := (List.replicate 60 0, 0, 0, 0, 0, 0, 0, fun _ => 0, fun _ => 0)
set_option maxRecDepth 4000 in
theorem new_row {z sl : Nat} {g : mx_G} (hg : gOK g z) : ∃ (h' : mx_H) (S' : xS), Go 103 0 [(0, .ref z)] [] (mx_push (hZ z sl g) 8 (.inr (9, [.null, .null, .null, .null, .null, .null, .null, .int 0]))) (none, h') ∧ xI z NK0 (z + 50, sl + 465) g h' S' ∧ OS S' z S' [] [] [] [] [] [] 0 (bI false) [] [] [] [] [] [] ([], [], [], 0, 0) ([], [], []) m00 0 := by
  have x1 : xw z NK0 g 40 27 [(0, .ref (z + 47)), (1, .ref (z + 44))] [.int 0, .int 60, .ref (z + 48)] (S50 z) (fun v S' => v = none ∧ S' = xu (S50 z) 48 (.inl (List.replicate (60 : Int32).toNatClampNeg 0))) := by
    refine xw.callN (o := 48) (xs := []) rfl rfl rfl rfl rfl rfl (c_refill (xs := []) rfl (by decide) ?_)
    exact xw.ret rfl (fun _ => rfl) ⟨rfl, rfl⟩
  obtain ⟨v1, h1, S1, g1, i1, rfl, rfl⟩ := x1 _ _ (x50 (sl := sl) hg)
  have x2 : xw z NK0 g 103 86 [(0, .ref z)] [.ref (z + 47), .ref z] (xu (S50 z) 48 (.inl (List.replicate (60 : Int32).toNatClampNeg 0))) (fun v S' => v = none ∧ S' = xu (xu (S50 z) 48 (.inl (List.replicate (60 : Int32).toNatClampNeg 0))) 0 (.inr (.inr (9, [.ref (z + 1), .ref (z + 6), .ref (z + 15), .ref (z + 30), .ref (z + 37), .ref (z + 44), .ref (z + 47), .int 0])))) := by
    refine xw.putf (o := 0) (fs' := [.ref (z + 1), .ref (z + 6), .ref (z + 15), .ref (z + 30), .ref (z + 37), .ref (z + 44), .ref (z + 47), .int 0]) rfl ((xu_ne _ _ (by decide)).trans rfl) (Nat.le_of_ble_eq_true rfl) rfl rfl rfl ?_
    exact xw.ret rfl (fun _ => rfl) ⟨rfl, rfl⟩
  obtain ⟨v2, h2, S2, g2, i2, rfl, rfl⟩ := x2 _ _ i1
  refine ⟨h2, _, ?_, i2, ?_⟩
  · rw [← hZ_nil z sl g, hL_push]
    refine k_103 (w := z) rfl ?_
    exact go_call (q := (none, h1)) rfl rfl rfl (k_40 (L := [] ++ zRL z) (w := z + 47) rfl g1) g2
  · refine ⟨?_, ⟨?_, ?_, ?_, ?_, ?_, ?_, ?_, ?_⟩, ⟨?_, ?_, ?_, ?_, ?_, ?_, ?_, ?_, ?_⟩, ?_, ?_, ?_, ?_, ⟨?_, ?_, ?_, ?_⟩, ?_, ?_, ?_, ?_, ?_, fun _ _ => rfl⟩
    all_goals rfl
/-- its row of slots has been doubled twice at least -/
theorem two_up {z : Nat} {c : Nat × Nat} {g : mx_G} {h : mx_H} {S : xS} {xs : List Int32} (hI : xI z NK0 c g h S) (h48 : S 48 = some (.inl xs)) (hl : xs.length = 60) : c.1 + 2 ≤ h.1 := by
  obtain ⟨-, e, ar, f, h1, -, -, -, h5, -⟩ := hI
  obtain ⟨-, -, -, a4, -⟩ := h5 48 xs h48
  have he : 2 ≤ e 48 := by
    rcases Nat.lt_or_ge (e 48) 2 with w | w
    · have : e 48 = 0 ∨ e 48 = 1 := by omega
      rcases this with w | w <;> (rw [w] at a4; omega)
    · exact w
  have hs : e 48 ≤ (NK0.map e).sum := by
    simp only [List.map_cons, List.map_nil, List.sum_cons, List.sum_nil]
    omega
  omega
def S60 (z : Nat) : xS := fun k => if 52 ≤ k then (([some (.inr (.inr (10, [.int 0, .int 0, .ref (z + 53), .ref (z + 54), .ref (z + 55), .ref (z + 56), .int 0, .int 0, .ref (z + 57), .ref (z + 58), .ref (z + 59), .int 0]))), some (.inr (aZ false 400)), some (.inr (aZ false 400)), some (.inr (aZ false 16)), some (.inr (aZ false 64)), some (.inr (aZ false 400)), some (.inr (aZ true 400)), some (.inr (aZ false 61))] : List (Option xC))[k - 52]?).getD none else none
theorem S60_lt {z k : Nat} (h : (S60 z k).isSome = true) : 52 ≤ k ∧ k < 60 := by
  unfold S60 at h
  split at h
  · rename_i w
    refine ⟨w, ?_⟩
    rcases Nat.lt_or_ge k 60 with w2 | w2
    · exact w2
    · rw [List.getElem?_eq_none (by show 8 ≤ k - 52; omega)] at h
      cases h
  · cases h
theorem new_mod {z sl : Nat} {g : mx_G} (hg : gOK g (z + 52)) : ∃ h' : mx_H, Go 116 0 [(0, .ref (z + 52))] [] (mx_push (hZ (z + 52) sl g) 12 (.inr (10, [.int 0, .int 0, .null, .null, .null, .null, .int 0, .int 0, .null, .null, .null, .int 0]))) (none, h') ∧ xI z [] (z + 60, sl + 1753) g h' (S60 z) ∧ MO (S60 z) z (S60 z) 0 0 0 0 0 (fun _ => 0) (fun _ => 0) (fun _ => 0) (fun _ => 0) (fun _ => 0) (fun _ => 0) (fun _ => 0) := by
  refine ⟨hL (hZ (z + 52) sl g) ([] ++ zVL (z + 52)) (12 + 1741), ?_, ?_, ?_⟩
  · have e := hL_push (hZ (z + 52) sl g) [] 0 12 (.inr (10, [.int 0, .int 0, .null, .null, .null, .null, .int 0, .int 0, .null, .null, .null, .int 0]))
    rw [hZ_nil] at e
    rw [e]
    exact k_116 (h0 := hZ (z + 52) sl g) (L := []) (w := z + 52) rfl
  · refine ⟨⟨by decide, fun k hk => absurd hk List.not_mem_nil, fun j hj => by have := (S60_lt hj).2; show z + j < z + 60; omega⟩, fun _ => 0, fun _ => 0, fun _ _ => 0, rfl, rfl, ⟨rfl, fun k hk => ⟨?_, ?_, (hg k hk).2⟩⟩, ?_, ?_, ?_, ?_⟩
    · have := (hg k hk).1
      show g.1 k < z + 60
      omega
    · exact hL_low (hZ (z + 52) sl g) _ _ (hg k hk).1
    · intro k x hk
      obtain ⟨b1, b2⟩ := S60_lt (z := z) (k := k) (by rw [hk]; rfl)
      obtain ⟨j, rfl⟩ : ∃ j, k = 52 + j := ⟨k - 52, by omega⟩
      rw [show z + (52 + j) = (hZ (z + 52) sl g).1 + j from (Nat.add_assoc ..).symm, hL_at]
      have : j = 0 ∨ j = 1 ∨ j = 2 ∨ j = 3 ∨ j = 4 ∨ j = 5 ∨ j = 6 ∨ j = 7 := by omega
      rcases this with rfl | rfl | rfl | rfl | rfl | rfl | rfl | rfl
      all_goals (cases hk; rfl)
    · intro k xs hk
      obtain ⟨b1, b2⟩ := S60_lt (z := z) (k := k) (by rw [hk]; rfl)
      obtain ⟨j, rfl⟩ : ∃ j, k = 52 + j := ⟨k - 52, by omega⟩
      have : j = 0 ∨ j = 1 ∨ j = 2 ∨ j = 3 ∨ j = 4 ∨ j = 5 ∨ j = 6 ∨ j = 7 := by omega
      rcases this with rfl | rfl | rfl | rfl | rfl | rfl | rfl | rfl
      all_goals cases hk
    · intro k k' xs xs' hk
      obtain ⟨b1, b2⟩ := S60_lt (z := z) (k := k) (by rw [hk]; rfl)
      obtain ⟨j, rfl⟩ : ∃ j, k = 52 + j := ⟨k - 52, by omega⟩
      have : j = 0 ∨ j = 1 ∨ j = 2 ∨ j = 3 ∨ j = 4 ∨ j = 5 ∨ j = 6 ∨ j = 7 := by omega
      rcases this with rfl | rfl | rfl | rfl | rfl | rfl | rfl | rfl
      all_goals cases hk
    · intro q hq
      have hq : z + 60 ≤ q := hq
      show (if q < z + 52 then none else ([] ++ zVL (z + 52))[q - (z + 52)]?) = none
      rw [if_neg (by omega), List.getElem?_eq_none]
      show 8 ≤ q - (z + 52)
      omega
  · refine ⟨?_, ?_, ?_, ?_, ?_, ?_, ?_, ?_, fun _ _ => rfl⟩
    all_goals rfl
