/-! MORE LOCALS DO NO HARM: a run goes on the same with locals that it does not need -/
def lk_ok (lv : mx_L) : Prop := (lv.map fun q => q.1).Nodup
def lk_le (lv lv' : mx_L) : Prop := ∀ i v, mx_lget lv i = some v → mx_lget lv' i = some v
def lk_F (f : mx_F) : Prop := ∀ lv lv' st h q, lk_ok lv → lk_ok lv' → lk_le lv lv' → f lv st h = some q → ∃ l', f lv' st h = some (q.1, l', q.2.2.1, q.2.2.2) ∧ lk_ok q.2.1 ∧ lk_ok l' ∧ lk_le q.2.1 l'
def lk_E : mx_E → Prop
  | .inl f => lk_F f
  | _ => True
theorem mx_lget_cons (q : Nat × Value) (r : mx_L) (i : Nat) : mx_lget (q :: r) i = if q.1 = i then some q.2 else mx_lget r i := by
  unfold mx_lget
  rw [List.find?_cons]
  by_cases h : q.1 = i
  · rw [if_pos h]; simp [h]
  · have hb : (q.1 == i) = false := by simpa using h
    rw [if_neg h, hb]
theorem mx_lget_none {r : mx_L} {i : Nat} (h : ∀ q ∈ r, q.1 ≠ i) : mx_lget r i = none := by
  induction r with
  | nil => rfl
  | cons a r ih =>
    rw [mx_lget_cons, if_neg (h a List.mem_cons_self)]
    exact ih (fun q hq => h q (List.mem_cons_of_mem _ hq))
theorem lk_cons {q : Nat × Value} {r : mx_L} : lk_ok (q :: r) ↔ (∀ x ∈ r, x.1 ≠ q.1) ∧ lk_ok r := by
  unfold lk_ok
  rw [List.map_cons, List.nodup_cons]
  constructor
  · rintro ⟨h1, h2⟩
    exact ⟨fun x hx e => h1 (List.mem_map.mpr ⟨x, hx, e⟩), h2⟩
  · rintro ⟨h1, h2⟩
    refine ⟨fun h => ?_, h2⟩
    obtain ⟨x, hx, e⟩ := List.mem_map.mp h
    exact h1 x hx e
theorem lk_filter {p : Nat × Value → Bool} : ∀ {r : mx_L}, lk_ok r → lk_ok (r.filter p) := by
  intro r h
  unfold lk_ok at *
  exact h.sublist (List.filter_sublist.map _)
theorem mx_lget_filter {p : Nat × Value → Bool} : ∀ {r : mx_L} (i : Nat), lk_ok r → mx_lget (r.filter p) i = (match mx_lget r i with
    | some v => if p (i, v) = true then some v else none
    | none => none) := by
  intro r
  induction r with
  | nil => intro i _; rfl
  | cons a r ih =>
    intro i h
    obtain ⟨h1, h2⟩ := lk_cons.mp h
    by_cases ha : a.1 = i
    · have e1 : mx_lget (a :: r) i = some a.2 := by rw [mx_lget_cons, if_pos ha]
      have e2 : mx_lget r i = none := mx_lget_none (fun q hq => by rw [← ha]; exact h1 q hq)
      rw [e1]
      have ea : (i, a.2) = a := by rw [← ha]
      by_cases hp : p a = true
      · rw [List.filter_cons_of_pos hp, mx_lget_cons, if_pos ha]
        simp only [ea, hp, if_true]
      · rw [List.filter_cons_of_neg hp, ih i h2, e2]
        simp only [ea, hp]
        rfl
    · rw [mx_lget_cons, if_neg ha]
      by_cases hp : p a = true
      · rw [List.filter_cons_of_pos hp, mx_lget_cons, if_neg ha]; exact ih i h2
      · rw [List.filter_cons_of_neg hp]; exact ih i h2
theorem mx_ins_get : ∀ (l : mx_L) (i : Nat) (v : Value) (j : Nat), lk_ok l → mx_lget (mx_ins l i v) j = if j = i then some v else mx_lget l j := by
  intro l
  induction l with
  | nil =>
    intro i v j _
    unfold mx_ins
    rw [mx_lget_cons]
    by_cases h : i = j
    · rw [if_pos h, if_pos h.symm]
    · rw [if_neg h, if_neg (Ne.symm h)]
  | cons a r ih =>
    intro i v j h
    obtain ⟨h1, h2⟩ := lk_cons.mp h
    unfold mx_ins
    by_cases ha : a.1 = i
    · have e1 : r.filter (fun x => !(x.1 == i)) = r := List.filter_eq_self.mpr (fun x hx => by have := h1 x hx; rw [ha] at this; simp [this])
      rw [if_pos ha, e1, mx_lget_cons, mx_lget_cons]
      by_cases hj : j = i
      · rw [if_pos hj, if_pos hj.symm]
      · rw [if_neg hj, if_neg (Ne.symm hj), if_neg (by rw [ha]; exact Ne.symm hj)]
    · rw [if_neg ha, mx_lget_cons, mx_lget_cons, ih i v j h2]
      by_cases hj : j = i
      · rw [if_neg (by rw [hj]; exact ha), if_pos hj, if_pos hj]
      · rw [if_neg hj, if_neg hj]
theorem mx_ins_ok : ∀ (l : mx_L) (i : Nat) (v : Value), lk_ok l → lk_ok (mx_ins l i v) := by
  intro l
  induction l with
  | nil => intro i v _; unfold mx_ins lk_ok; simp
  | cons a r ih =>
    intro i v h
    obtain ⟨h1, h2⟩ := lk_cons.mp h
    unfold mx_ins
    by_cases ha : a.1 = i
    · rw [if_pos ha]
      refine lk_cons.mpr ⟨fun x hx => ?_, lk_filter h2⟩
      have := (List.mem_filter.mp hx).2
      simpa using this
    · rw [if_neg ha]
      refine lk_cons.mpr ⟨fun x hx => ?_, ih i v h2⟩
      rcases mx_ins_mem _ _ _ _ hx with rfl | ⟨h3, -⟩
      · exact fun e => ha e.symm
      · exact h1 x h3
theorem lk_set {p : Nat × Value → Bool} {lv lv' : mx_L} (h1 : lk_ok lv) (h2 : lk_ok lv') (h3 : lk_le lv lv') (i : Nat) (v : Value) : lk_ok (mx_ins (lv.filter p) i v) ∧ lk_ok (mx_ins (lv'.filter p) i v) ∧ lk_le (mx_ins (lv.filter p) i v) (mx_ins (lv'.filter p) i v) := by
  refine ⟨mx_ins_ok _ _ _ (lk_filter h1), mx_ins_ok _ _ _ (lk_filter h2), fun j w hj => ?_⟩
  rw [mx_ins_get _ _ _ _ (lk_filter h1)] at hj
  rw [mx_ins_get _ _ _ _ (lk_filter h2)]
  by_cases hji : j = i
  · rw [if_pos hji] at hj ⊢; exact hj
  · rw [if_neg hji] at hj ⊢
    rw [mx_lget_filter j h1] at hj
    rw [mx_lget_filter j h2]
    cases hx : mx_lget lv j with
    | none => rw [hx] at hj; cases hj
    | some u =>
      rw [hx] at hj
      rw [h3 j u hx]
      exact hj
section LK
theorem lk_const (v : Value) (n : Nat) : lk_F (sx_const v n) := fun lv lv' st h q h1 h2 h3 e => by cases e; exact ⟨lv', rfl, h1, h2, h3⟩
theorem lk_iload (i n : Nat) : lk_F (sx_iload i n) := fun lv lv' st h q h1 h2 h3 e => by
  unfold sx_iload at *
  split at e
  · rename_i x hx
    cases e
    exact ⟨lv', by rw [h3 _ _ hx], h1, h2, h3⟩
  · cases e
theorem lk_aload (i n : Nat) : lk_F (sx_aload i n) := fun lv lv' st h q h1 h2 h3 e => by
  unfold sx_aload at *
  split at e
  · rename_i x hx
    cases e
    exact ⟨lv', by rw [h3 _ _ hx], h1, h2, h3⟩
  · cases e
theorem lk_lload (i n : Nat) : lk_F (sx_lload i n) := fun lv lv' st h q h1 h2 h3 e => by
  unfold sx_lload at *
  split at e
  · rename_i x hx
    cases e
    exact ⟨lv', by rw [h3 _ _ hx], h1, h2, h3⟩
  · cases e
theorem lk_istore (i n : Nat) : lk_F (sx_istore i n) := fun lv lv' st h q h1 h2 h3 e => by
  unfold sx_istore at *
  split at e
  · cases e
    exact ⟨_, rfl, lk_set h1 h2 h3 _ _⟩
  · cases e
theorem lk_astore (i n : Nat) : lk_F (sx_astore i n) := fun lv lv' st h q h1 h2 h3 e => by
  unfold sx_astore at *
  split at e
  · cases e
    exact ⟨_, rfl, lk_set h1 h2 h3 _ _⟩
  · cases e
theorem lk_lstore (i n : Nat) : lk_F (sx_lstore i n) := fun lv lv' st h q h1 h2 h3 e => by
  unfold sx_lstore at *
  split at e
  · cases e
    exact ⟨_, rfl, lk_set h1 h2 h3 _ _⟩
  · cases e
theorem lk_iinc (i : Nat) (d : Int32) (n : Nat) : lk_F (sx_iinc i d n) := fun lv lv' st h q h1 h2 h3 e => by
  unfold sx_iinc at *
  split at e
  · rename_i x hx
    cases e
    exact ⟨_, by rw [h3 _ _ hx]; rfl, lk_set h1 h2 h3 _ _⟩
  · cases e
/-- an instruction that neither reads nor writes locals -/
theorem lk_free {f : mx_F} {F : List Value → mx_H → Option (Nat × List Value × mx_H)} (hf : ∀ lv st h, f lv st h = (F st h).map (fun x => (x.1, lv, x.2.1, x.2.2))) : lk_F f := by
  intro lv lv' st h q h1 h2 h3 e
  rw [hf] at e
  rw [hf]
  cases hF : F st h with
  | none => rw [hF] at e; cases e
  | some x =>
    rw [hF] at e
    cases e
    exact ⟨lv', rfl, h1, h2, h3⟩
theorem lk_free' {f : mx_F} (hf : ∀ lv lv' st h, f lv st h = (f lv' st h).map (fun q => (q.1, lv, q.2.2.1, q.2.2.2))) : lk_F f := by
  intro lv lv' st h q h1 h2 h3 e
  have e2 := hf lv' lv st h
  rw [e] at e2
  have e3 := hf lv lv st h
  rw [e] at e3
  have e4 : q.2.1 = lv := congrArg (fun x => x.2.1) (Option.some.inj e3)
  exact ⟨lv', e2, by rw [e4]; exact h1, h2, by rw [e4]; exact h3⟩
theorem lk_bin (f : Int32 → Int32 → Int32) (n : Nat) : lk_F (sx_bin f n) := lk_free' (fun lv lv' st h => by unfold sx_bin; (repeat' split) <;> first | rfl | simp_all)
theorem lk_div (f : Int32 → Int32 → Int32) (n : Nat) : lk_F (sx_div f n) := lk_free' (fun lv lv' st h => by unfold sx_div; (repeat' split) <;> first | rfl | simp_all)
theorem lk_ineg (n : Nat) : lk_F (sx_ineg n) := lk_free' (fun lv lv' st h => by unfold sx_ineg; (repeat' split) <;> first | rfl | simp_all)
theorem lk_i2l (n : Nat) : lk_F (sx_i2l n) := lk_free' (fun lv lv' st h => by unfold sx_i2l; (repeat' split) <;> first | rfl | simp_all)
theorem lk_l2i (n : Nat) : lk_F (sx_l2i n) := lk_free' (fun lv lv' st h => by unfold sx_l2i; (repeat' split) <;> first | rfl | simp_all)
theorem lk_ladd (n : Nat) : lk_F (sx_ladd n) := lk_free' (fun lv lv' st h => by unfold sx_ladd; (repeat' split) <;> first | rfl | simp_all)
theorem lk_lcmp (n : Nat) : lk_F (sx_lcmp n) := lk_free' (fun lv lv' st h => by unfold sx_lcmp; (repeat' split) <;> first | rfl | simp_all)
theorem lk_if (f : Int32 → Bool) (t n : Nat) : lk_F (sx_if f t n) := lk_free' (fun lv lv' st h => by unfold sx_if; (repeat' split) <;> first | rfl | simp_all)
theorem lk_icmp (f : Int32 → Int32 → Bool) (t n : Nat) : lk_F (sx_icmp f t n) := lk_free' (fun lv lv' st h => by unfold sx_icmp; (repeat' split) <;> first | rfl | simp_all)
theorem lk_goto (t : Nat) : lk_F (sx_goto t) := lk_free' (fun lv lv' st h => by unfold sx_goto; (repeat' split) <;> first | rfl | simp_all)
theorem lk_table (dt : Nat) (lo hi : Int) (ts : List Nat) : lk_F (sx_table dt lo hi ts) := lk_free' (fun lv lv' st h => by unfold sx_table; (repeat' split) <;> first | rfl | simp_all)
theorem lk_dup (n : Nat) : lk_F (sx_dup n) := lk_free' (fun lv lv' st h => by unfold sx_dup; (repeat' split) <;> first | rfl | simp_all)
theorem lk_pop (n : Nat) : lk_F (sx_pop n) := lk_free' (fun lv lv' st h => by unfold sx_pop; (repeat' split) <;> first | rfl | simp_all)
theorem lk_getf (ci k n : Nat) : lk_F (sx_getf ci k n) := lk_free' (fun lv lv' st h => by unfold sx_getf; (repeat' split) <;> first | rfl | simp_all)
theorem lk_putf (ci k : Nat) (ty : FieldType) (n : Nat) : lk_F (sx_putf ci k ty n) := lk_free' (fun lv lv' st h => by unfold sx_putf; (repeat' split) <;> first | rfl | simp_all)
theorem lk_gets (k n : Nat) : lk_F (sx_gets k n) := lk_free' (fun lv lv' st h => by unfold sx_gets; (repeat' split) <;> first | rfl | simp_all)
theorem lk_ald (t : Bool) (n : Nat) : lk_F (sx_ald t n) := lk_free' (fun lv lv' st h => by unfold sx_ald; (repeat' split) <;> first | rfl | simp_all)
theorem lk_alen (n : Nat) : lk_F (sx_alen n) := lk_free' (fun lv lv' st h => by unfold sx_alen; (repeat' split) <;> first | rfl | simp_all)
theorem lk_ast (t : Bool) (n : Nat) : lk_F (sx_ast t n) := lk_free' (fun lv lv' st h => by unfold sx_ast; (repeat' split) <;> first | rfl | simp_all)
theorem lk_new (ci : Nat) (fs : List Value) (n : Nat) : lk_F (sx_new ci fs n) := lk_free' (fun lv lv' st h => by unfold sx_new; (repeat' split) <;> first | rfl | simp_all)
theorem lk_newa (t : Bool) (n : Nat) : lk_F (sx_newa t n) := lk_free' (fun lv lv' st h => by unfold sx_newa; (repeat' split) <;> first | rfl | simp_all)
theorem lk_obj (n : Nat) : lk_F (sx_obj n) := lk_free' (fun lv lv' st h => by unfold sx_obj; (repeat' split) <;> first | rfl | simp_all)
end LK
theorem lk_exec {mi : Nat} (hT : ∀ pc en, mx_M mi pc = some en → lk_E en) : ∀ (n pc : Nat) (lv lv' : mx_L) (st : List Value) (h : mx_H) (r : Option Value × mx_H), lk_ok lv → lk_ok lv' → lk_le lv lv' → mx_exec mx_M n mi pc lv st h = some r → mx_exec mx_M n mi pc lv' st h = some r := by
  intro n
  induction n with
  | zero => intro pc lv lv' st h r _ _ _ e; simp [mx_exec] at e
  | succ n ih =>
    intro pc lv lv' st h r h1 h2 h3 e
    rw [mx_exec] at e ⊢
    cases hM : mx_M mi pc with
    | none => rw [hM] at e; cases e
    | some x =>
      have hx := hT pc x hM
      rw [hM] at e
      rcases x with f | c | ty
      · cases hq : f lv st h with
        | none => simp only [hq] at e; cases e
        | some q =>
          simp only [hq] at e
          obtain ⟨l', a1, a2, a3, a4⟩ := hx lv lv' st h q h1 h2 h3 hq
          simp only [a1]
          exact ih _ _ _ _ _ _ a2 a3 a4 e
      · by_cases hk : mx_cok c st h = true
        · simp only [hk, if_true] at e ⊢
          cases hq : mx_exec mx_M n c.1 0 (lv_args 0 (st.take c.2.1).reverse) [] h with
          | none => simp only [hq] at e; cases e
          | some q =>
            simp only [hq] at e ⊢
            exact ih _ _ _ _ _ _ h1 h2 h3 e
        · simp only [hk] at e
          cases e
      · exact e
theorem xw.forget {z : Nat} {NK : List Nat} {g : mx_G} {mi pc : Nat} {lv lv' : mx_L} {st : List Value} {S : xS} {P : Option Value → xS → Prop} (hT : ∀ pc en, mx_M mi pc = some en → lk_E en) (h1 : (lv.map fun q => q.1).Nodup) (h2 : (lv'.map fun q => q.1).Nodup) (h3 : ∀ q ∈ lv, mx_lget lv' q.1 = some q.2) (go : xw z NK g mi pc lv st S P) : xw z NK g mi pc lv' st S P := by
  intro c h hI
  obtain ⟨v, h', S', ⟨n, a1⟩, a2, a3⟩ := go c h hI
  refine ⟨v, h', S', ⟨n, lk_exec hT n pc lv lv' st h _ h1 h2 (fun i w hi => ?_) a1⟩, a2, a3⟩
  obtain ⟨k, hk⟩ := mx_lget_pos hi
  exact h3 (i, w) (List.mem_of_getElem? hk)
