/-! WALKING A TABLE -/
def mx_steps (M : Nat → Nat → Option mx_E) : Nat → Nat → Nat → mx_L → List Value → mx_H → Option mx_S
  | 0, _, pc, lv, st, h => some (pc, lv, st, h)
  | k + 1, mi, pc, lv, st, h => match M mi pc with
    | some (.inl f) => (match f lv st h with
      | some (pc', lv', st', h') => mx_steps M k mi pc' lv' st' h'
      | none => none)
    | _ => none
theorem mx_to.steps {M : Nat → Nat → Option mx_E} (k : Nat) {mi pc pc' : Nat} {lv lv' : mx_L} {st st' : List Value} {h h' : mx_H} {r : Option Value × mx_H} (hs : mx_steps M k mi pc lv st h = some (pc', lv', st', h')) (go : mx_to M mi pc' lv' st' h' r) : mx_to M mi pc lv st h r := by
  induction k generalizing pc lv st h with
  | zero => cases hs; exact go
  | succ k ih =>
    rw [mx_steps] at hs
    cases hM : M mi pc with
    | none => rw [hM] at hs; cases hs
    | some x =>
      rw [hM] at hs
      rcases x with f | c | ty
      · cases hq : f lv st h with
        | none => simp only [hq] at hs; cases hs
        | some q =>
          simp only [hq] at hs
          exact mx_to.step hM (by rw [hq]) (ih hs)
      · cases hs
      · cases hs
abbrev Go (mi pc : Nat) (lv : mx_L) (st : List Value) (h : mx_H) (r : Option Value × mx_H) : Prop := mx_to mx_M mi pc lv st h r
section WK
variable {mi pc : Nat} {lv : mx_L} {st : List Value} {h : mx_H} {r : Option Value × mx_H}
theorem go_if {g : Int32 → Bool} {t n : Nat} {x : Int32} (hM : mx_M mi pc = some (.inl (sx_if g t n))) (h1 : g x = true → Go mi t lv st h r) (h2 : g x = false → Go mi n lv st h r) : Go mi pc lv (.int x :: st) h r := by
  by_cases hc : g x = true
  · exact mx_to.step hM (by simp only [sx_if, if_pos hc]) (h1 hc)
  · exact mx_to.step hM (by simp only [sx_if, if_neg hc]) (h2 (by simpa using hc))
theorem go_icmp {g : Int32 → Int32 → Bool} {t n : Nat} {x y : Int32} (hM : mx_M mi pc = some (.inl (sx_icmp g t n))) (h1 : g x y = true → Go mi t lv st h r) (h2 : g x y = false → Go mi n lv st h r) : Go mi pc lv (.int y :: .int x :: st) h r := by
  by_cases hc : g x y = true
  · exact mx_to.step hM (by simp only [sx_icmp, if_pos hc]) (h1 hc)
  · exact mx_to.step hM (by simp only [sx_icmp, if_neg hc]) (h2 (by simpa using hc))
theorem go_getf {ci k n a : Nat} {fs : List Value} {v : Value} (hM : mx_M mi pc = some (.inl (sx_getf ci k n))) (hg : mx_get h a = some (.inr (ci, fs))) (hv : fs[k]? = some v) (go : Go mi n lv (v :: st) h r) : Go mi pc lv (.ref a :: st) h r :=
  mx_to.step hM (by simp only [sx_getf, hg, if_true, hv]) go
theorem go_putf {ci k n a : Nat} {ty : FieldType} {fs : List Value} {v : Value} (hM : mx_M mi pc = some (.inl (sx_putf ci k ty n))) (hg : mx_get h a = some (.inr (ci, fs))) (hk : k < fs.length) (hn : narrow ty v = v) (hf : fits ty v = true) (go : Go mi n lv st (mx_set h a (.inr (ci, fs.set k v))) r) : Go mi pc lv (v :: .ref a :: st) h r :=
  mx_to.step hM (by simp only [sx_putf, hg, hk, hn, hf, and_self, if_true]) go
theorem go_ald {t : Bool} {n a len : Nat} {i : Int32} {f : Nat → Int32} (hM : mx_M mi pc = some (.inl (sx_ald t n))) (hg : mx_get h a = some (.inl (t, len, f))) (hi : ¬ (i < 0 ∨ len ≤ i.toNatClampNeg)) (go : Go mi n lv (.int (f i.toNatClampNeg) :: st) h r) : Go mi pc lv (.int i :: .ref a :: st) h r :=
  mx_to.step hM (by simp only [sx_ald, mx_rd, hg, hi, not_false_eq_true, and_self, if_true]) go
theorem go_ast {n a len : Nat} {i v : Int32} {f : Nat → Int32} (hM : mx_M mi pc = some (.inl (sx_ast false n))) (hg : mx_get h a = some (.inl (false, len, f))) (hi : ¬ (i < 0 ∨ len ≤ i.toNatClampNeg)) (go : Go mi n lv st (mx_set h a (.inl (false, len, upd f i.toNatClampNeg v))) r) : Go mi pc lv (.int v :: .int i :: .ref a :: st) h r :=
  mx_to.step hM (by simp only [sx_ast, hg, hi, not_false_eq_true, and_self, if_true]; rfl) go
theorem go_zst {n a len : Nat} {i v : Int32} {f : Nat → Int32} (hM : mx_M mi pc = some (.inl (sx_ast true n))) (hg : mx_get h a = some (.inl (true, len, f))) (hi : ¬ (i < 0 ∨ len ≤ i.toNatClampNeg)) (go : Go mi n lv st (mx_set h a (.inl (true, len, upd f i.toNatClampNeg (vp_nar .boolean v)))) r) : Go mi pc lv (.int v :: .int i :: .ref a :: st) h r :=
  mx_to.step hM (by simp only [sx_ast, hg, hi, not_false_eq_true, and_self, if_true]) go
theorem go_alen {n a len : Nat} {t : Bool} {f : Nat → Int32} (hM : mx_M mi pc = some (.inl (sx_alen n))) (hg : mx_get h a = some (.inl (t, len, f))) (go : Go mi n lv (.int (nI len) :: st) h r) : Go mi pc lv (.ref a :: st) h r :=
  mx_to.step hM (by simp only [sx_alen, mx_len, hg]; rfl) go
end WK
theorem go_new {mi pc ci n : Nat} {fs : List Value} {lv : mx_L} {st : List Value} {h : mx_H} {r : Option Value × mx_H} (hM : mx_M mi pc = some (.inl (sx_new ci fs n))) (go : Go mi n lv (.ref h.1 :: st) (mx_push h fs.length (.inr (ci, fs))) r) : Go mi pc lv st h r := mx_to.step hM rfl go
theorem go_newa {mi pc n : Nat} {t : Bool} {k : Int32} {lv : mx_L} {st : List Value} {h : mx_H} {r : Option Value × mx_H} (hM : mx_M mi pc = some (.inl (sx_newa t n))) (hk : ¬ k < 0) (hb : k.toNatClampNeg * 4 ≤ 536870912) (go : Go mi n lv (.ref h.1 :: st) (mx_push h k.toNatClampNeg (.inl (t, k.toNatClampNeg, fun _ => 0))) r) : Go mi pc lv (.int k :: st) h r := mx_to.step hM (by simp only [sx_newa, hk, hb, not_false_eq_true, and_self, if_true]) go
/-- behind a call: the callee's own run, then the rest -/
theorem go_call {mi pc : Nat} {c : Nat × Nat × Option (Option Nat) × Nat} {lv lv' : mx_L} {st : List Value} {h : mx_H} {r q : Option Value × mx_H} (hM : mx_M mi pc = some (.inr (.inl c))) (hc : mx_cok c st h = true) (hl : lv_args 0 (st.take c.2.1).reverse = lv') (hq : Go c.1 0 lv' [] h q) (go : Go mi (pc + 3) lv (q.1.toList ++ st.drop c.2.1) q.2 r) : Go mi pc lv st h r := mx_to.call hM hc (by rw [hl]; exact hq) go
theorem go_ret {mi pc : Nat} {ty : Option FieldType} {lv : mx_L} {st : List Value} {h : mx_H} {r : Option Value × mx_H} (hM : mx_M mi pc = some (.inr (.inr ty))) (hr : mx_ret ty st h = some r) : Go mi pc lv st h r := mx_to.ret hM hr
