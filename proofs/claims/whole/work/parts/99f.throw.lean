/-! WHAT A THROW OF NoSuchElementException ASKS FOR, and that it moves along; then the throw itself -/
abbrev nseN : String := "java/util/NoSuchElementException"
abbrev nseR : String := "java/lang/RuntimeException"
abbrev tN' : String := "java/lang/Throwable"
abbrev dSTE : String := "[Ljava/lang/StackTraceElement;"
abbrev dLST : String := "Ljava/util/List;"
/-- of the thrown class itself: its constructor's link, its making, the two calls on itself, its five fields of Throwable, and Throwable's own words -/
def oaTail : List Cond :=
  [.methodLink "RowCode" 123 (Bundle.initS nseN), .instantiable nseN 6, .castable nseN nseN] ++
  ([Bundle.tFill0, Bundle.tFill].map fun y => .selects nseN y y) ++
  ([("cause", "Ljava/lang/Throwable;"), ("stackTrace", dSTE), ("suppressedExceptions", dLST), ("detailMessage", "Ljava/lang/String;"), ("backtrace", "Ljava/lang/Object;")].map fun y => .lays nseN tN' y.1 y.2) ++
  ([("UNASSIGNED_STACK", dSTE), ("SUPPRESSED_SENTINEL", dLST)].map fun y => .isRef (.static tN' y.1 y.2)) ++
  [.fieldLink tN' 198 tN' "backtrace" "Ljava/lang/Object;", .lays tN' tN' "backtrace" "Ljava/lang/Object;"]
def OA : List Cond := Bundle.throwableAtoms ++ (Bundle.throwableSAtoms ++ (Bundle.passSAtoms nseN nseR 13 prog_21_method_4_code ++ (Bundle.chainSAtoms nseR ["java/lang/Exception"] ++ oaTail)))
def oaDC (w : Cond) : Bool := match w with
  | .declares _ => true
  | .castable _ _ => true
  | _ => false
def oaSt (w : Cond) : Bool := match w with
  | .laysStatic .. => true
  | .isRef _ => true
  | _ => false
theorem OA_kinds : ∀ w ∈ OA, (w.onTables && w.keeps) = true ∨ oaDC w = true ∨ oaSt w = true := by decide +kernel
theorem OA_in : ∀ w ∈ OA, oaSt w = true ∨ w ∈ lw_tbl := by decide +kernel
theorem OA_st : ∀ w ∈ OA, oaSt w = true → w = .laysStatic tN' "UNASSIGNED_STACK" dSTE ∨ w = .laysStatic tN' "SUPPRESSED_SENTINEL" dLST ∨ w = .isRef (.static tN' "UNASSIGNED_STACK" dSTE) ∨ w = .isRef (.static tN' "SUPPRESSED_SENTINEL" dLST) := by decide +kernel
/-- the words on the tables -/
def oaT (U : State) : Prop := ∀ w ∈ OA, oaSt w = false → w.before #[] U = true
theorem oaT.same {u U : State} (hv : u.vm = U.vm) (h : oaT u) : oaT U := by
  intro w hw hs
  have h1 := h w hw hs
  rcases OA_kinds w hw with k | k | k
  · exact va_tabs (by rw [Bool.and_eq_true] at k; exact k.1) hv h1
  · cases w <;> first | (simp [oaDC] at k; done) | exact va_tabs rfl hv h1
  · rw [k] at hs; cases hs
theorem oaT.warm {s U : State} (hW : s.WarmedH U.vm) (h : oaT s) : oaT U := by
  intro w hw hs
  have h1 := h w hw hs
  have tr : ∀ {c : Cond}, c.onTables = true → c.before #[] (s.setVm U.vm) = true → c.before #[] U = true := fun hc h => va_tabs (u := s.setVm U.vm) hc rfl h
  rcases OA_kinds w hw with k | k | k
  · exact word_at hW (Or.inl k) h1
  · cases w with
    | declares y => exact tr rfl (by rw [Cond.declares_setVm hW.alike]; exact h1)
    | castable a b => exact tr rfl (by rw [Cond.castable_setVm hW.alike]; exact h1)
    | _ => simp [oaDC] at k
  · rw [k] at hs; cases hs
/-- a static of Throwable that holds a reference or null -/
def tZ (n d : String) (A : Nat → Prop) (U : State) (H : Heap) : Prop :=
  ∃ (c : ClassId) (k : Class) (i : Nat) (f : Field) (a : Nat) (cell : Cell) (v : Value), U.vm.findClass tN' = some c ∧ U.fieldFound? tN' n d = some (c, k, i, f) ∧ f.isStatic = true ∧ k.statics = some a ∧ H[a]? = some cell ∧ cell.vm.isStatics = true ∧ cell.cls = c ∧ f.slot < cell.slots.size ∧ k.staticTypes[f.slot]? = some f.type ∧ cell.slots[f.slot]? = some v ∧ v.isRef = true ∧ ¬ A a
theorem tZ.moved {n d : String} {A : Nat → Prop} {u U : State} {H : Heap} (hvm : u.vm.Alike U.vm) (h : tZ n d A u H) : tZ n d A U H := by
  obtain ⟨c, k, i, f, a, cell, v, h1, h2, h3, h4, h5, h6, h7, h8, h9, h10⟩ := h
  obtain ⟨k', hi', he⟩ := State.fieldFound?_setVm hvm h2
  exact ⟨c, k', i, f, a, cell, v, by rw [hvm.findClass]; exact h1, hi', h3, by rw [he]; exact h4, h5, h6, h7, h8, by rw [he]; exact h9, h10⟩
theorem tZ.kept {n d : String} {A : Nat → Prop} {U : State} {H H1 : Heap} (h : tZ n d A U H) (hq : ∀ a : Nat, a < H.size → ¬ A a → H1[a]? = H[a]?) : tZ n d A U H1 := by
  obtain ⟨c, k, i, f, a, cell, v, h1, h2, h3, h4, h5, h6, h7, h8, h9, h10, h11, h12⟩ := h
  exact ⟨c, k, i, f, a, cell, v, h1, h2, h3, h4, by rw [hq a (Array.getElem?_eq_some_iff.mp h5).1 h12]; exact h5, h6, h7, h8, h9, h10, h11, h12⟩
theorem tZ.narrow {n d : String} {A B : Nat → Prop} {U : State} {H : Heap} (h : tZ n d A U H) (hAB : ∀ q, B q → A q) : tZ n d B U H := by
  obtain ⟨c, k, i, f, a, cell, v, h1, h2, h3, h4, h5, h6, h7, h8, h9, h10, h11, h12⟩ := h
  exact ⟨c, k, i, f, a, cell, v, h1, h2, h3, h4, h5, h6, h7, h8, h9, h10, h11, fun z => h12 (hAB a z)⟩
theorem tZ.words {n d : String} {A : Nat → Prop} {U : State} {args : Array Value} (h : tZ n d A U U.heap) : (Cond.laysStatic tN' n d).before args U = true ∧ (Cond.isRef (.static tN' n d)).before args U = true := by
  obtain ⟨c, k, i, f, a, cell, v, h1, h2, h3, h4, h5, h6, h7, h8, h9, h10, h11, -⟩ := h
  refine ⟨?_, ?_⟩
  · simp [Cond.before, Cond.holds, Cond.value, h1, h2, h3, h4, h5, h6, h7, h8, h9]
  · have he : (Term.static tN' n d).eval args U none [] U = some v := by
      simp [Term.eval, State.fieldNamed?, h2, h3, h4, h5, h6, h10]
    simp only [Cond.before, Cond.holds, Cond.value, he]
    cases v <;> simp_all [Value.isRef]
theorem tZ.of {n d : String} {A : Nat → Prop} {s : State} {args : Array Value} (h1 : (Cond.laysStatic tN' n d).before args s = true) (h2 : (Cond.isRef (.static tN' n d)).before args s = true) (hA : ∀ a : Nat, a < s.heap.size → ¬ A a) : tZ n d A s s.heap := by
  obtain ⟨c, k, i, f, a, cell, q1, q2, q3, q4, q5, q6, q7, q8, q9⟩ := Cond.laysStatic_spec h1
  obtain ⟨u, hu⟩ := Cond.staticRefV q2 q3 q4 q5 q6 h2
  exact ⟨c, k, i, f, a, cell, u.v, q1, q2, q3, q4, q5, q6, q7, q8, q9, hu, u.2, hA a (Array.getElem?_eq_some_iff.mp q5).1⟩
theorem OA_all {A : Nat → Prop} {U : State} {args : Array Value} (h : oaT U) (z1 : tZ "UNASSIGNED_STACK" dSTE A U U.heap) (z2 : tZ "SUPPRESSED_SENTINEL" dLST A U U.heap) : ∀ w ∈ OA, w.before args U = true := by
  intro w hw
  cases hs : oaSt w with
  | true =>
    rcases OA_st w hw hs with rfl | rfl | rfl | rfl
    · exact z1.words.1
    · exact z2.words.1
    · exact z1.words.2
    · exact z2.words.2
  | false =>
    have h1 := h w hw hs
    rcases OA_kinds w hw with k | k | k
    · exact va_any (by rw [Bool.and_eq_true] at k; exact k.1) h1
    · cases w <;> first | (simp [oaDC] at k; done) | exact va_any rfl h1
    · rw [k] at hs; cases hs
