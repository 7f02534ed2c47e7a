/-! RULES over the state: from here to the end the answer and the state behind it are P's -/
def mx_pok (c : Nat × Nat × Option (Option Nat) × Nat) (st : List Value) : Bool := decide (c.2.1 ≤ st.length) && (decide (((st.drop c.2.1).map fun v => v.category).sum ≤ 8) && decide ((lg_sl (st.take c.2.1).reverse).length ≤ c.2.2.2))
theorem mx_cok_of {c : Nat × Nat × Option (Option Nat) × Nat} {st : List Value} {h : mx_H} (h1 : mx_pok c st = true) (h2 : mx_rcv c.2.2.1 (st.take c.2.1).reverse h = true) : mx_cok c st h = true := by
  unfold mx_pok at h1
  unfold mx_cok
  simp only [Bool.and_eq_true] at h1 ⊢
  exact ⟨h1.1, h1.2.1, h1.2.2, h2⟩
def xw (z : Nat) (NK : List Nat) (g : mx_G) (mi pc : Nat) (lv : mx_L) (st : List Value) (S : xS) (P : Option Value → xS → Prop) : Prop :=
  ∀ (c : Nat × Nat) (h : mx_H), xI z NK c g h S → ∃ (v : Option Value) (h' : mx_H) (S' : xS), Go mi pc lv st h (v, h') ∧ xI z NK c g h' S' ∧ P v S'
section XW
variable {z : Nat} {NK : List Nat} {g : mx_G} {mi pc : Nat} {lv lv' : mx_L} {st st' : List Value} {S : xS} {P : Option Value → xS → Prop}
theorem xw.steps (k : Nat) {pc' : Nat} (hs : ∀ h, mx_steps mx_M k mi pc lv st h = some (pc', lv', st', h)) (go : xw z NK g mi pc' lv' st' S P) : xw z NK g mi pc lv st S P := by
  intro c h hI
  obtain ⟨v, h', S', h1, h2, h3⟩ := go c h hI
  exact ⟨v, h', S', mx_to.steps k (hs h) h1, h2, h3⟩
theorem xw.if_ {f : Int32 → Bool} {t n : Nat} {x : Int32} (hM : mx_M mi pc = some (.inl (sx_if f t n))) (h1 : f x = true → xw z NK g mi t lv st S P) (h2 : f x = false → xw z NK g mi n lv st S P) : xw z NK g mi pc lv (.int x :: st) S P := by
  intro c h hI
  cases hc : f x with
  | true =>
    obtain ⟨v, h', S', a1, a2, a3⟩ := h1 hc c h hI
    exact ⟨v, h', S', go_if hM (fun _ => a1) (fun w => by rw [hc] at w; cases w), a2, a3⟩
  | false =>
    obtain ⟨v, h', S', a1, a2, a3⟩ := h2 hc c h hI
    exact ⟨v, h', S', go_if hM (fun w => by rw [hc] at w; cases w) (fun _ => a1), a2, a3⟩
theorem xw.icmp {f : Int32 → Int32 → Bool} {t n : Nat} {x y : Int32} (hM : mx_M mi pc = some (.inl (sx_icmp f t n))) (h1 : f x y = true → xw z NK g mi t lv st S P) (h2 : f x y = false → xw z NK g mi n lv st S P) : xw z NK g mi pc lv (.int y :: .int x :: st) S P := by
  intro c h hI
  cases hc : f x y with
  | true =>
    obtain ⟨v, h', S', a1, a2, a3⟩ := h1 hc c h hI
    exact ⟨v, h', S', go_icmp hM (fun _ => a1) (fun w => by rw [hc] at w; cases w), a2, a3⟩
  | false =>
    obtain ⟨v, h', S', a1, a2, a3⟩ := h2 hc c h hI
    exact ⟨v, h', S', go_icmp hM (fun w => by rw [hc] at w; cases w) (fun _ => a1), a2, a3⟩
def xw_tab (x : Int32) (Q : Nat → Prop) : Int → List Nat → Prop
  | _, [] => True
  | lo, t :: r => (x = Int32.ofInt lo → Q t) ∧ xw_tab x Q (lo + 1) r
theorem xw_tab_at {x : Int32} {Q : Nat → Prop} : ∀ (ts : List Nat) (lo : Int) (j t : Nat), xw_tab x Q lo ts → ts[j]? = some t → x.toInt = lo + j → Q t := by
  intro ts
  induction ts with
  | nil => intro lo j t _ h; simp at h
  | cons a r ih =>
    intro lo j t hT h e
    cases j with
    | zero =>
      have h1 : a = t := by simpa using h
      subst h1
      refine hT.1 ?_
      have h2 : x.toInt = lo := by simpa using e
      rw [← h2, Int32.ofInt_toInt]
    | succ j => exact ih (lo + 1) j t hT.2 (by simpa using h) (by rw [e]; push_cast; omega)
theorem xw.table {dt : Nat} {lo hi : Int} {ts : List Nat} {x : Int32} (hM : mx_M mi pc = some (.inl (sx_table dt lo hi ts))) (hd : (x.toInt < lo ∨ hi < x.toInt) → xw z NK g mi dt lv st S P) (hT : xw_tab x (fun t => xw z NK g mi t lv st S P) lo ts) (hlen : hi + 1 - lo = ts.length := by decide) : xw z NK g mi pc lv (.int x :: st) S P := by
  intro c h hI
  by_cases hc : x.toInt < lo ∨ hi < x.toInt
  · obtain ⟨v, h', S', a1, a2, a3⟩ := hd hc c h hI
    exact ⟨v, h', S', mx_to.step hM (by simp only [sx_table, if_pos hc]) a1, a2, a3⟩
  · have hj : (x.toInt - lo).toNat < ts.length := by omega
    have ht : ts[(x.toInt - lo).toNat]? = some (ts[(x.toInt - lo).toNat]) := List.getElem?_eq_getElem hj
    have hx := xw_tab_at ts lo _ _ hT ht (by omega)
    obtain ⟨v, h', S', a1, a2, a3⟩ := hx c h hI
    exact ⟨v, h', S', mx_to.step hM (by simp only [sx_table, if_neg hc, ht]) a1, a2, a3⟩
theorem xw.getf {ci k n o : Nat} {fs : List Value} {v : Value} (hM : mx_M mi pc = some (.inl (sx_getf ci k n))) (hS : S o = some (.inr (.inr (ci, fs)))) (hv : fs[k]? = some v) (go : xw z NK g mi n lv (v :: st) S P) : xw z NK g mi pc lv (.ref (z + o) :: st) S P := by
  intro c h hI
  obtain ⟨v, h', S', a1, a2, a3⟩ := go c h hI
  exact ⟨v, h', S', go_getf hM (hI.obj hS) hv a1, a2, a3⟩
theorem xw.putf {ci k n o : Nat} {ty : FieldType} {fs fs' : List Value} {v : Value} (hM : mx_M mi pc = some (.inl (sx_putf ci k ty n))) (hS : S o = some (.inr (.inr (ci, fs)))) (hk : k < fs.length) (hn : narrow ty v = v) (hf : fits ty v = true) (hs : fs.set k v = fs') (go : xw z NK g mi n lv st (xu S o (.inr (.inr (ci, fs')))) P) : xw z NK g mi pc lv (v :: .ref (z + o) :: st) S P := by
  intro c h hI
  subst hs
  obtain ⟨v, h', S', a1, a2, a3⟩ := go c _ (hI.set hS _)
  exact ⟨v, h', S', go_putf hM (hI.obj hS) hk hn hf a1, a2, a3⟩
theorem xw.ald {t : Bool} {n o len : Nat} {i : Int32} {f : Nat → Int32} (hM : mx_M mi pc = some (.inl (sx_ald t n))) (hS : S o = some (.inr (.inl (t, len, f)))) (hi : ¬ (i < 0 ∨ len ≤ i.toNatClampNeg)) (go : xw z NK g mi n lv (.int (f i.toNatClampNeg) :: st) S P) : xw z NK g mi pc lv (.int i :: .ref (z + o) :: st) S P := by
  intro c h hI
  obtain ⟨v, h', S', a1, a2, a3⟩ := go c h hI
  exact ⟨v, h', S', go_ald hM (hI.obj hS) hi a1, a2, a3⟩
theorem xw.ast {n o len : Nat} {i v : Int32} {f : Nat → Int32} (hM : mx_M mi pc = some (.inl (sx_ast false n))) (hS : S o = some (.inr (.inl (false, len, f)))) (hi : ¬ (i < 0 ∨ len ≤ i.toNatClampNeg)) (go : xw z NK g mi n lv st (xu S o (.inr (.inl (false, len, upd f i.toNatClampNeg v)))) P) : xw z NK g mi pc lv (.int v :: .int i :: .ref (z + o) :: st) S P := by
  intro c h hI
  obtain ⟨v, h', S', a1, a2, a3⟩ := go c _ (hI.set hS _)
  exact ⟨v, h', S', go_ast hM (hI.obj hS) hi a1, a2, a3⟩
theorem xw.zst {n o len : Nat} {i v : Int32} {f : Nat → Int32} (hM : mx_M mi pc = some (.inl (sx_ast true n))) (hS : S o = some (.inr (.inl (true, len, f)))) (hi : ¬ (i < 0 ∨ len ≤ i.toNatClampNeg)) (go : xw z NK g mi n lv st (xu S o (.inr (.inl (true, len, upd f i.toNatClampNeg (vp_nar .boolean v))))) P) : xw z NK g mi pc lv (.int v :: .int i :: .ref (z + o) :: st) S P := by
  intro c h hI
  obtain ⟨v, h', S', a1, a2, a3⟩ := go c _ (hI.set hS _)
  exact ⟨v, h', S', go_zst hM (hI.obj hS) hi a1, a2, a3⟩
theorem xw.alen {n o len : Nat} {t : Bool} {f : Nat → Int32} (hM : mx_M mi pc = some (.inl (sx_alen n))) (hS : S o = some (.inr (.inl (t, len, f)))) (go : xw z NK g mi n lv (.int (nI len) :: st) S P) : xw z NK g mi pc lv (.ref (z + o) :: st) S P := by
  intro c h hI
  obtain ⟨v, h', S', a1, a2, a3⟩ := go c h hI
  exact ⟨v, h', S', go_alen hM (hI.obj hS) a1, a2, a3⟩
theorem xI.stat {c : Nat × Nat} {h : mx_H} (hI : xI z NK c g h S) {k : Nat} (hk : k < 3) : h.2.2.2 = g ∧ mx_get h (g.1 k) = none ∧ g.2 (g.1 k) = some (x_stat k) := by
  obtain ⟨-, e, ar, f, -, -, h3, -⟩ := hI
  exact ⟨h3.1, (h3.2 k hk).2.1, (h3.2 k hk).2.2⟩
theorem xw.gets {k n : Nat} (hM : mx_M mi pc = some (.inl (sx_gets k n))) (go : xw z NK g mi n lv (.ref (g.1 k) :: st) S P) : xw z NK g mi pc lv st S P := by
  intro c h hI
  obtain ⟨v, h', S', a1, a2, a3⟩ := go c h hI
  obtain ⟨-, e, ar, f, -, -, h3, -⟩ := id hI
  exact ⟨v, h', S', mx_to.step hM (by simp only [sx_gets, h3.1]) a1, a2, a3⟩
theorem xw.sald {k n : Nat} {i : Int32} (hM : mx_M mi pc = some (.inl (sx_ald false n))) (hk : k < 3) (hi : ¬ (i < 0 ∨ (x_stat k).1 ≤ i.toNatClampNeg)) (go : xw z NK g mi n lv (.int ((x_stat k).2 i.toNatClampNeg) :: st) S P) : xw z NK g mi pc lv (.int i :: .ref (g.1 k) :: st) S P := by
  intro c h hI
  obtain ⟨v, h', S', a1, a2, a3⟩ := go c h hI
  obtain ⟨b1, b2, b3⟩ := hI.stat hk
  exact ⟨v, h', S', mx_to.step hM (by simp only [sx_ald, mx_rd, b1, b2, b3, hi, not_false_eq_true, and_self, if_true]) a1, a2, a3⟩
theorem xw.slen {k n : Nat} (hM : mx_M mi pc = some (.inl (sx_alen n))) (hk : k < 3) (go : xw z NK g mi n lv (.int (nI (x_stat k).1) :: st) S P) : xw z NK g mi pc lv (.ref (g.1 k) :: st) S P := by
  intro c h hI
  obtain ⟨v, h', S', a1, a2, a3⟩ := go c h hI
  obtain ⟨b1, b2, b3⟩ := hI.stat hk
  exact ⟨v, h', S', mx_to.step hM (by simp only [sx_alen, mx_len, b1, b2, b3]; rfl) a1, a2, a3⟩
theorem xw.call_ {c : Nat × Nat × Option (Option Nat) × Nat} (hM : mx_M mi pc = some (.inr (.inl c))) (hp : mx_pok c st = true) (hr : ∀ d h, xI z NK d g h S → mx_rcv c.2.2.1 (st.take c.2.1).reverse h = true) (hl : lv_args 0 (st.take c.2.1).reverse = lv') (hq : xw z NK g c.1 0 lv' [] S (fun v S' => xw z NK g mi (pc + 3) lv (v.toList ++ st.drop c.2.1) S' P)) : xw z NK g mi pc lv st S P := by
  intro d h hI
  obtain ⟨v, h', S', a1, a2, a3⟩ := hq d h hI
  obtain ⟨v2, h2, S2, b1, b2, b3⟩ := a3 d h' a2
  exact ⟨v2, h2, S2, go_call hM (mx_cok_of hp (hr d h hI)) hl a1 b1, b2, b3⟩
/-- a call on a Numbers, on another object of ours, and one without a receiver that is looked at -/
theorem xw.callN {j k nL o : Nat} {xs : List Int32} {As : List Value} (hM : mx_M mi pc = some (.inr (.inl (j, k, some (some 6), nL)))) (hp : mx_pok (j, k, some (some 6), nL) st = true) (ha : (st.take k).reverse = .ref (z + o) :: As) (hS : S o = some (.inl xs)) (hl : lv_args 0 (.ref (z + o) :: As) = lv') {rest : List Value} (hd : st.drop k = rest) (hq : xw z NK g j 0 lv' [] S (fun v S' => xw z NK g mi (pc + 3) lv (v.toList ++ rest) S' P)) : xw z NK g mi pc lv st S P := by
  refine xw.call_ (lv' := lv') hM hp (fun d h hI => ?_) (by rw [← hl, ← ha]) (by rw [← hd] at hq; exact hq)
  obtain ⟨-, e, ar, f, -, -, -, -, h5, -⟩ := hI
  obtain ⟨-, h6, -⟩ := h5 o xs hS
  show mx_rcv (some (some 6)) (st.take k).reverse h = true
  rw [ha]
  simp only [mx_rcv, h6, decide_true]
theorem xw.callO {j k nL o ci : Nat} {fs As : List Value} (hM : mx_M mi pc = some (.inr (.inl (j, k, some (some ci), nL)))) (hp : mx_pok (j, k, some (some ci), nL) st = true) (ha : (st.take k).reverse = .ref (z + o) :: As) (hS : S o = some (.inr (.inr (ci, fs)))) (hl : lv_args 0 (.ref (z + o) :: As) = lv') {rest : List Value} (hd : st.drop k = rest) (hq : xw z NK g j 0 lv' [] S (fun v S' => xw z NK g mi (pc + 3) lv (v.toList ++ rest) S' P)) : xw z NK g mi pc lv st S P := by
  refine xw.call_ (lv' := lv') hM hp (fun d h hI => ?_) (by rw [← hl, ← ha]) (by rw [← hd] at hq; exact hq)
  have h6 := hI.obj hS
  show mx_rcv (some (some ci)) (st.take k).reverse h = true
  rw [ha]
  simp only [mx_rcv, h6, decide_true]
theorem xw.callS {j k nL : Nat} {As : List Value} (hM : mx_M mi pc = some (.inr (.inl (j, k, none, nL)))) (hp : mx_pok (j, k, none, nL) st = true) (ha : (st.take k).reverse = As) (hl : lv_args 0 As = lv') {rest : List Value} (hd : st.drop k = rest) (hq : xw z NK g j 0 lv' [] S (fun v S' => xw z NK g mi (pc + 3) lv (v.toList ++ rest) S' P)) : xw z NK g mi pc lv st S P :=
  xw.call_ (lv' := lv') hM hp (fun d h hI => rfl) (by rw [← hl, ← ha]) (by rw [← hd] at hq; exact hq)
theorem xw.ret {ty : Option FieldType} {v : Option Value} (hM : mx_M mi pc = some (.inr (.inr ty))) (hr : ∀ h, mx_ret ty st h = some (v, h)) (hP : P v S) : xw z NK g mi pc lv st S P :=
  fun _ h hI => ⟨v, h, S, go_ret hM (hr h), hI, hP⟩
theorem xw.imp {Q : Option Value → xS → Prop} (hx : xw z NK g mi pc lv st S P) (h : ∀ v S', P v S' → Q v S') : xw z NK g mi pc lv st S Q := by
  intro c h0 hI
  obtain ⟨v, h', S', a1, a2, a3⟩ := hx c h0 hI
  exact ⟨v, h', S', a1, a2, h v S' a3⟩
end XW
