/-! WHAT THE SMALL MACHINE MEANS ON THE MACHINE ITSELF -/
def mx_e (cI cZ : ClassId) : mx_C → va_E
  | .inl a => .inl (if a.1 = true then cZ else cI, a.2.1, .inl a.2.2)
  | .inr o => .inr o
abbrev mx_tys (cI cZ : ClassId) : List (ClassId × FieldType) := [(cI, .int), (cZ, .boolean)]
def mx_A (h : mx_H) : Nat → Prop := fun q => (mx_get h q).isSome = true ∨ h.1 ≤ q
/-- the heap holds the cells, which lie in A -/
def mx_R (D : va_G) (cI cZ : ClassId) (A : Nat → Prop) (g : mx_G) (h : mx_H) (H : Heap) : Prop :=
  H.size = h.1 ∧ h.2.2.2 = g ∧ ∀ (a : Nat) (c : mx_C), mx_get h a = some c → va_at D mx_cl (a, mx_e cI cZ c) H ∧ A a
def mx_sts : List (String × String × String) := [("RowCode", "GREATEST", "[I"), ("RowCode", "TAKES", "[I"), ("RowCode", "GIVES", "[I")]
def mx_Z (A : Nat → Prop) (g : mx_G) (U : State) (H : Heap) : Prop :=
  (∀ (k : Nat) (q : String × String × String), mx_sts[k]? = some q → va_Z q.1 q.2.1 q.2.2 (.ref (g.1 k)) A U H) ∧ ∀ (a n : Nat) (f : Nat → Int32), g.2 a = some (n, f) → va_T .int a n (fun j => .int (f j)) A U H
def mx_isn (w : Cond) : Bool := match w with
  | .fieldLinkNest .. => true
  | .methodLinkNest .. => true
  | _ => false
/-- the words that every method's contract asks for, and those on nest mates -/
def mx_tb : List Cond := lw_tbl.filter (fun w => goodWord w || k2_isCode w)
def mx_nst : List Cond := lw_tbl.filter mx_isn
theorem mx_tb_good : ∀ w ∈ mx_tb, w ∈ lw_tbl ∧ ((w.onTables && w.keeps) = true ∨ ∃ ty, w = .arrayClass ty) := by
  intro w hw
  obtain ⟨h1, h2⟩ := List.mem_filter.mp hw
  refine ⟨h1, ?_⟩
  rcases (Bool.or_eq_true _ _).mp h2 with h | h
  · exact good_of_word h
  · cases w <;> first | (simp [k2_isCode] at h; done) | exact Or.inl rfl
theorem mx_tb_in {w : Cond} (h : w ∈ lw_tbl) (hg : (goodWord w || k2_isCode w) = true) : w ∈ mx_tb := List.mem_filter.mpr ⟨h, hg⟩
theorem mx_nst_in {w : Cond} (h : w ∈ lw_tbl) (hg : mx_isn w = true) : w ∈ mx_nst := List.mem_filter.mpr ⟨h, hg⟩
theorem mx_nst_warm {s U : State} (hW : s.WarmedH U.vm) (h : ∀ w ∈ mx_nst, va_Nw w s) : ∀ w ∈ mx_nst, va_Nw w U := by
  intro w hw
  have h1 := h w hw
  have h2 := (List.mem_filter.mp hw).2
  cases w <;> first | (simp [mx_isn] at h2; done) | exact va_Nw.warmF hW h1 | exact va_Nw.warmM hW h1
theorem mx_nst_same {u U : State} (hv : u.vm = U.vm) (h : ∀ w ∈ mx_nst, va_Nw w u) : ∀ w ∈ mx_nst, va_Nw w U := by
  intro w hw
  have h1 := h w hw
  have h2 := (List.mem_filter.mp hw).2
  cases w <;> first | (simp [mx_isn] at h2; done) | exact va_Nw.same rfl hv h1
/-- a frame of a method of class 'own': what holds all along -/
def mx_X (own ynm : String) (cc : ByteArray) (nL : Nat) (ret : Option FieldType) (p : Program) (R : Room) (s : State) (m : MethodId) (args : Array Value) (meth : Method) (c : Code) (D : va_G) (cI cZ : ClassId) (A : Nat → Prop) (g : mx_G) : Prop :=
  p.tables.exec = Jvm.exec ∧ c.code = cc ∧ c.maxLocals = nL ∧ meth.sig.returnType = ret ∧ s.vm.findClass own = some m.cls ∧ (∀ w ∈ mx_tb, w.before args s = true) ∧ meth.locks = false ∧ meth.name = ynm ∧ va_K D mx_cl (mx_tys cI cZ) s ∧ (∀ w ∈ mx_nst, va_Nw w s) ∧ mx_Z A g s s.heap ∧ (∀ q, s.heap.size ≤ q → A q)
/-- a plain instruction does on the machine what it does here -/
def mx_W (own ynm : String) (cc : ByteArray) (nL : Nat) (ret : Option FieldType) (fr lc pc : Nat) (f : mx_F) : Prop :=
  (∀ lv st h q, f lv st h = some q → h.1 ≤ q.2.2.2.1 ∧ h.2.1 ≤ q.2.2.2.2.1 ∧ q.2.2.2.2.2.2 = h.2.2.2) ∧
  ∀ (p : Program) (l : Launch) (e : Env) (R : Room) (s : State) (m : MethodId) (args : Array Value) (below : List Frame) (meth : Method) (c : Code) (D : va_G) (cI cZ : ClassId) (A : Nat → Prop) (g : mx_G) (Q : State → Prop), fr ≤ R.frames → lc ≤ R.locals → mx_X own ynm cc nL ret p R s m args meth c D cI cZ A g →
  ∀ (lv : mx_L) (st : List Value) (h : mx_H) (q : mx_S), f lv st h = some q → ∀ (H : Heap) (locs : List Loc) (ls : Array Slot) (cells slots : Nat), mx_R D cI cZ A g h H → va_S A s.heap H locs → lv_has ls nL lv →
  cells + (q.2.2.2.1 - h.1) ≤ R.cells → slots + (q.2.2.2.2.1 - h.2.1) ≤ R.slots →
  (∀ (H' : Heap) (locs' : List Loc) (ls' : Array Slot), mx_R D cI cZ A g q.2.2.2 H' → va_S A s.heap H' locs' → lv_has ls' nL q.2.1 → W p l e R s m args below meth c H' locs' (cells + (q.2.2.2.1 - h.1)) (slots + (q.2.2.2.2.1 - h.2.1)) Q (F0 m q.1 ls' q.2.2.1)) →
  W p l e R s m args below meth c H locs cells slots Q (F0 m pc ls st)
theorem mx_lget_at {ls : Array Slot} {nL : Nat} {lv : mx_L} {i : Nat} {v : Value} (h : lv_has ls nL lv) (hi : mx_lget lv i = some v) : ls[i]? = some (.val v) := by
  unfold mx_lget at hi
  cases hq : lv.find? (fun q => q.1 == i) with
  | none => rw [hq] at hi; cases hi
  | some q =>
    rw [hq] at hi
    have h1 : q ∈ lv := List.mem_of_find?_eq_some hq
    have h2 : q.1 = i := by have := List.find?_some hq; simpa using this
    have h3 : q.2 = v := by simpa using hi
    rw [← h2, ← h3]
    exact h.2.2 q h1
theorem mx_ins_mem : ∀ (l : mx_L) (i : Nat) (v : Value) (q : Nat × Value), q ∈ mx_ins l i v → q = (i, v) ∨ (q ∈ l ∧ ¬ q.1 = i) := by
  intro l
  induction l with
  | nil => intro i v q h; exact Or.inl (by simpa [mx_ins] using h)
  | cons x r ih =>
    intro i v q h
    unfold mx_ins at h
    by_cases hx : x.1 = i
    · rw [if_pos hx] at h
      rcases List.mem_cons.mp h with h | h
      · exact Or.inl h
      · obtain ⟨h1, h2⟩ := List.mem_filter.mp h
        exact Or.inr ⟨List.mem_cons_of_mem _ h1, by simpa using h2⟩
    · rw [if_neg hx] at h
      rcases List.mem_cons.mp h with h | h
      · exact Or.inr ⟨h ▸ List.mem_cons_self, h ▸ hx⟩
      · rcases ih i v q h with h | ⟨h1, h2⟩
        · exact Or.inl h
        · exact Or.inr ⟨List.mem_cons_of_mem _ h1, h2⟩
theorem mx_lset_has {ls : Array Slot} {nL : Nat} {lv : mx_L} {i : Nat} {v : Value} (h : lv_has ls nL ((i, v) :: lv.filter (fun q => !(q.1 == i) && !(q.1 + 1 == i && q.2.category == 2)))) : lv_has ls nL (mx_lset lv i v) := by
  refine ⟨h.1, h.2.1, fun q hq => h.2.2 q ?_⟩
  rcases mx_ins_mem _ _ _ _ hq with rfl | ⟨h1, h2⟩
  · exact List.mem_cons_self
  · obtain ⟨h3, h4⟩ := List.mem_filter.mp h1
    exact List.mem_cons_of_mem _ (List.mem_filter.mpr ⟨h3, by simp only [Bool.and_eq_true]; exact ⟨by simpa using h2, h4⟩⟩)
theorem mx_lset2_has {ls : Array Slot} {nL : Nat} {lv : mx_L} {i : Nat} {v : Value} (h : lv_has ls nL ((i, v) :: lv.filter (fun q => !(q.1 == i) && (!(q.1 == i + 1) && !(q.1 + 1 == i && q.2.category == 2))))) : lv_has ls nL (mx_lset2 lv i v) := by
  refine ⟨h.1, h.2.1, fun q hq => h.2.2 q ?_⟩
  rcases mx_ins_mem _ _ _ _ hq with rfl | ⟨h1, h2⟩
  · exact List.mem_cons_self
  · obtain ⟨h3, h4⟩ := List.mem_filter.mp h1
    exact List.mem_cons_of_mem _ (List.mem_filter.mpr ⟨h3, by simp only [Bool.and_eq_true] at h4 ⊢; exact ⟨by simpa using h2, h4⟩⟩)
