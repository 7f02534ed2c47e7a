/-! THE SMALL MACHINE. A heap of cells by their addresses; an instruction is a function of locals, stack and heap; calls are big steps. -/
/-- an array (of booleans, else of ints), or an object by its class's number and its fields -/
abbrev mx_C : Type := (Bool × Nat × (Nat → Int32)) ⊕ (Nat × List Value)
/-- static arrays: where the k-th lies; what lies there -/
abbrev mx_G : Type := (Nat → Nat) × (Nat → Option (Nat × (Nat → Int32)))
/-- size, slots made, cells, static arrays -/
abbrev mx_H : Type := Nat × Nat × (Nat → Option mx_C) × mx_G
abbrev mx_L : Type := List (Nat × Value)
abbrev mx_S : Type := Nat × mx_L × List Value × mx_H
abbrev mx_F : Type := mx_L → List Value → mx_H → Option mx_S
/-- a plain instruction; a call (method, how many values it takes, the receiver's class where it is looked at, the callee's locals); a return -/
abbrev mx_E : Type := mx_F ⊕ ((Nat × Nat × Option (Option Nat) × Nat) ⊕ Option FieldType)
def mx_get (h : mx_H) (a : Nat) : Option mx_C := h.2.2.1 a
def mx_set (h : mx_H) (a : Nat) (c : mx_C) : mx_H := (h.1, h.2.1, fun q => if q = a then some c else h.2.2.1 q, h.2.2.2)
def mx_push (h : mx_H) (n : Nat) (c : mx_C) : mx_H := (h.1 + 1, h.2.1 + n, fun q => if q = h.1 then some c else h.2.2.1 q, h.2.2.2)
def mx_lget (lv : mx_L) (i : Nat) : Option Value := (lv.find? (fun q => q.1 == i)).map (fun q => q.2)
def mx_ins : mx_L → Nat → Value → mx_L
  | [], i, v => [(i, v)]
  | q :: r, i, v => if q.1 = i then (i, v) :: r.filter (fun x => !(x.1 == i)) else q :: mx_ins r i v
def mx_lset (lv : mx_L) (i : Nat) (v : Value) : mx_L := mx_ins (lv.filter (fun q => !(q.1 + 1 == i && q.2.category == 2))) i v
def mx_lset2 (lv : mx_L) (i : Nat) (v : Value) : mx_L := mx_ins (lv.filter (fun q => !(q.1 == i + 1) && !(q.1 + 1 == i && q.2.category == 2))) i v
def mx_rok (ty : FieldType) (v : Value) : Bool := match ty, v with
  | .object _, .ref _ => true
  | .object _, .null => true
  | .array _, .ref _ => true
  | .array _, .null => true
  | .long, .long _ => true
  | .int, .int _ => true
  | .boolean, .int x => decide (narrow .boolean (.int x) = .int x)
  | _, _ => false
def mx_ret : Option FieldType → List Value → mx_H → Option (Option Value × mx_H)
  | none, [], h => some (none, h)
  | some ty, [v], h => if mx_rok ty v = true then some (some v, h) else none
  | _, _, _ => none
def mx_rcv (r : Option (Option Nat)) (as : List Value) (h : mx_H) : Bool := match r, as with
  | none, _ => true
  | some none, .ref _ :: _ => true
  | some (some ci), .ref b :: _ => (match mx_get h b with
    | some (.inr o) => decide (o.1 = ci)
    | _ => false)
  | _, _ => false
def mx_cok (c : Nat × Nat × Option (Option Nat) × Nat) (st : List Value) (h : mx_H) : Bool :=
  decide (c.2.1 ≤ st.length) && (decide (((st.drop c.2.1).map fun v => v.category).sum ≤ 8) && (decide ((lg_sl (st.take c.2.1).reverse).length ≤ c.2.2.2) && mx_rcv c.2.2.1 (st.take c.2.1).reverse h))
def mx_exec (M : Nat → Nat → Option mx_E) : Nat → Nat → Nat → mx_L → List Value → mx_H → Option (Option Value × mx_H)
  | 0, _, _, _, _, _ => none
  | n + 1, mi, pc, lv, st, h => match M mi pc with
    | none => none
    | some (.inl f) => (match f lv st h with
      | none => none
      | some q => mx_exec M n mi q.1 q.2.1 q.2.2.1 q.2.2.2)
    | some (.inr (.inl c)) => if mx_cok c st h = true then
        (match mx_exec M n c.1 0 (lv_args 0 (st.take c.2.1).reverse) [] h with
        | none => none
        | some q => mx_exec M n mi (pc + 3) lv (q.1.toList ++ st.drop c.2.1) q.2) else none
    | some (.inr (.inr ty)) => mx_ret ty st h
theorem mx_exec_up (M : Nat → Nat → Option mx_E) : ∀ (n mi pc : Nat) (lv : mx_L) (st : List Value) (h : mx_H) (r : Option Value × mx_H), mx_exec M n mi pc lv st h = some r → mx_exec M (n + 1) mi pc lv st h = some r := by
  intro n
  induction n with
  | zero => intro mi pc lv st h r e; simp [mx_exec] at e
  | succ n ih =>
    intro mi pc lv st h r e
    rw [mx_exec] at e ⊢
    cases hM : M mi pc with
    | none => rw [hM] at e; cases e
    | some x =>
      rw [hM] at e
      rcases x with f | c | ty
      · cases hq : f lv st h with
        | none => simp only [hq] at e; cases e
        | some q =>
          simp only [hq] at e ⊢
          exact ih _ _ _ _ _ _ e
      · by_cases hk : mx_cok c st h = true
        · simp only [hk, if_true] at e ⊢
          cases hq : mx_exec M n c.1 0 (lv_args 0 (st.take c.2.1).reverse) [] h with
          | none => simp only [hq] at e; cases e
          | some q =>
            simp only [hq] at e
            simp only [ih _ _ _ _ _ _ hq]
            exact ih _ _ _ _ _ _ e
        · simp only [hk] at e
          cases e
      · exact e
theorem mx_exec_le (M : Nat → Nat → Option mx_E) {n k mi pc : Nat} {lv : mx_L} {st : List Value} {h : mx_H} {r : Option Value × mx_H} (hk : n ≤ k) (e : mx_exec M n mi pc lv st h = some r) : mx_exec M k mi pc lv st h = some r := by
  induction hk with
  | refl => exact e
  | step _ ih => exact mx_exec_up M _ _ _ _ _ _ _ ih
/-- what a run comes to, whatever the fuel -/
def mx_to (M : Nat → Nat → Option mx_E) (mi pc : Nat) (lv : mx_L) (st : List Value) (h : mx_H) (r : Option Value × mx_H) : Prop := ∃ n, mx_exec M n mi pc lv st h = some r
theorem mx_to.step {M : Nat → Nat → Option mx_E} {mi pc pc' : Nat} {lv lv' : mx_L} {st st' : List Value} {h h' : mx_H} {r : Option Value × mx_H} {f : mx_F} (hM : M mi pc = some (.inl f)) (hf : f lv st h = some (pc', lv', st', h')) (k : mx_to M mi pc' lv' st' h' r) : mx_to M mi pc lv st h r := by
  obtain ⟨n, e⟩ := k
  exact ⟨n + 1, by rw [mx_exec, hM]; simp only [hf]; exact e⟩
theorem mx_to.call {M : Nat → Nat → Option mx_E} {mi pc : Nat} {lv : mx_L} {st : List Value} {h : mx_H} {r : Option Value × mx_H} {c : Nat × Nat × Option (Option Nat) × Nat} {q : Option Value × mx_H} (hM : M mi pc = some (.inr (.inl c))) (hc : mx_cok c st h = true) (hq : mx_to M c.1 0 (lv_args 0 (st.take c.2.1).reverse) [] h q) (k : mx_to M mi (pc + 3) lv (q.1.toList ++ st.drop c.2.1) q.2 r) : mx_to M mi pc lv st h r := by
  obtain ⟨n1, e1⟩ := hq
  obtain ⟨n2, e2⟩ := k
  refine ⟨max n1 n2 + 1, ?_⟩
  rw [mx_exec, hM]
  simp only [hc, if_true, mx_exec_le M (Nat.le_max_left n1 n2) e1]
  exact mx_exec_le M (Nat.le_max_right n1 n2) e2
theorem mx_to.ret {M : Nat → Nat → Option mx_E} {mi pc : Nat} {lv : mx_L} {st : List Value} {h : mx_H} {r : Option Value × mx_H} {ty : Option FieldType} (hM : M mi pc = some (.inr (.inr ty))) (hr : mx_ret ty st h = some r) : mx_to M mi pc lv st h r := ⟨1, by rw [mx_exec, hM]; exact hr⟩
