/-! System.arraycopy of ints -/
section SC
variable {p : Program} {l : Launch} {e : Env} {R : Room} {s : State} {m : MethodId} {args : Array Value} {below : List Frame} {meth : Method} {c : Code} {H : Heap} {locs : List Loc} {cells slots : Nat} {Q : State → Prop}
theorem mx_nn {z : Int32} (hz : ¬ z < 0) : z.toInt = (z.toNatClampNeg : Int) := by
  have h1 : (0 : Int) ≤ z.toInt := by simpa using Int32.le_iff_toInt_le.mp (Int32.not_lt.mp hz)
  show z.toInt = ((z.toInt.toNat : Nat) : Int)
  omega
theorem mx_Wcopy {cc : ByteArray} {pc : Nat} {ls : Array Slot} {rest : List Value} (hexec : p.tables.exec = Jvm.exec) (hb : c.code = cc) (hml : c.maxLocals = ls.size) {own : String} {idx : Nat} (hown : s.vm.findClass own = some m.cls) (hlink : (Cond.methodLink own idx arraycopyName).before args s = true) (hnat : (Cond.native arraycopyName).before args s = true) (hstat : (Cond.static arraycopyName).before args s = true) (hini : (Cond.initialized "java/lang/System").before args s = true)
    {cA : ClassId} (hArr : ArrOfT s cA .int) {a0 a n0 n1 : Nat} {f g : Nat → Int32} (h0 : H[a0]? = some (vp_cell cA (n0, .inl f))) (h9 : H[a]? = some (vp_cell cA (n1, .inl g))) {sp dp n : Int32} (h1 : ¬ sp < 0) (h2 : ¬ dp < 0) (h3 : ¬ n < 0) (h4 : sp.toNatClampNeg + n.toNatClampNeg ≤ n0) (h5 : dp.toNatClampNeg + n.toNatClampNeg ≤ n1)
    (hfr : 1 ≤ R.frames) (hlo : (rest.map fun v => v.category).sum + (nativeFrameWords "java/lang/System" "arraycopy" 5 + 11) ≤ R.locals) (hdg : decode cc pc = .ok (.invokestatic idx, 3))
    (kk : ∀ (H1 : Heap) (L : List Loc), (∀ q ∈ L, q.base = a) → H1[a]? = some (vp_cell cA (n1, .inl (va_cpy f g sp.toNatClampNeg dp.toNatClampNeg n.toNatClampNeg))) → H1.size = H.size → (∀ q : Nat, q ≠ a → H1[q]? = H[q]?) → W p l e R s m args below meth c H1 (locs ++ L) cells slots Q (F0 m (pc + 3) ls rest)) : W p l e R s m args below meth c H locs cells slots Q (F0 m pc ls (.int n :: .int dp :: .ref a :: .int sp :: .ref a0 :: rest)) := by
  intro T hT X
  obtain ⟨-, k0, hk0, cm0, hkk0⟩ := hArr n0 (fun j => .int (f j))
  obtain ⟨-, k1, hk1, cm1, hkk1⟩ := hArr n1 (fun j => .int (g j))
  have z0 : (vp_cell cA (n0, .inl f)).slots.size = n0 := arrV_size _ _ _
  have z1 : (vp_cell cA (n1, .inl g)).slots.size = n1 := arrV_size _ _ _
  obtain ⟨vm', X', step⟩ := X.arraycopy hexec hown hlink hnat hstat hini (src := a0) (dst := a) (cs := vp_cell cA (n0, .inl f)) (cd := vp_cell cA (n1, .inl g)) (srcPos := sp) (destPos := dp) (n := n) (by rw [hT]; exact h0) (by rw [hT]; exact h9)
    (fun _ h => by cases h) (fun _ h => by cases h) (fun h => by cases h) (fun h => by cases h) hk0 hk1 hkk0 hkk1 (by simp [refKind]) h1 h2 h3
    (by rw [mx_nn h1, mx_nn h3, z0]; omega) (by rw [mx_nn h2, mx_nn h3, z1]; omega)
    (fun vm₁ _ j hj => by
      have e1 : (vp_cell cA (n0, .inl f)).slots.getD (sp.toNatClampNeg + j) .null = .int (f (sp.toNatClampNeg + j)) := by
        rw [Array.getD_eq_getD_getElem?, show (vp_cell cA (n0, .inl f)).slots[sp.toNatClampNeg + j]? = some (.int (f (sp.toNatClampNeg + j))) from arrV_read _ _ (by omega)]
        rfl
      rw [e1]
      exact ⟨rfl, trivial⟩)
    (g := F0 m pc ls (.int n :: .int dp :: .ref a :: .int sp :: .ref a0 :: rest)) rfl (by rw [hml]) (rest := rest) rfl (by rw [hb]; exact hdg) hfr (by show 2 * 0 + _ + _ ≤ _; omega)
  have e1 : copied (vp_cell cA (n0, .inl f)) (vp_cell cA (n1, .inl g)) sp dp n = vp_cell cA (n1, .inl (va_cpy f g sp.toNatClampNeg dp.toNatClampNeg n.toNatClampNeg)) := va_copied (fun z => .int z) cA cA f g h4
  rw [e1] at X' step
  have hl : a < H.size := (Array.getElem?_eq_some_iff.mp h9).1
  have hheap : ((T.setVm vm').setCell a (vp_cell cA (n1, .inl (va_cpy f g sp.toNatClampNeg dp.toNatClampNeg n.toNatClampNeg)))).heap = H.setIfInBounds a (vp_cell cA (n1, .inl (va_cpy f g sp.toNatClampNeg dp.toNatClampNeg n.toNatClampNeg))) := by rw [← hT]; rfl
  obtain ⟨t, a1, b1⟩ := kk _ _ (fun q hq => by obtain ⟨z, -, hz⟩ := List.mem_map.mp hq; rw [← hz]) (by simp [Array.getElem?_setIfInBounds, hl]) (by simp) (fun q hq => by simp [Array.getElem?_setIfInBounds, Ne.symm hq]) _ hheap X'
  exact ⟨t, step t a1, b1⟩
end SC
def sx_copy (n : Nat) : mx_F := fun lv st h => match st with
  | .int k :: .int dp :: .ref b :: .int sp :: .ref a :: r => (match mx_get h a, mx_get h b with
    | some (.inl x), some (.inl y) => if x.1 = false ∧ y.1 = false ∧ ¬ sp < 0 ∧ ¬ dp < 0 ∧ ¬ k < 0 ∧ sp.toNatClampNeg + k.toNatClampNeg ≤ x.2.1 ∧ dp.toNatClampNeg + k.toNatClampNeg ≤ y.2.1 ∧ (r.map fun v => v.category).sum ≤ 8 then
        some (n, lv, r, mx_set h b (.inl (false, y.2.1, va_cpy x.2.2 y.2.2 sp.toNatClampNeg dp.toNatClampNeg k.toNatClampNeg))) else none
    | _, _ => none)
  | _ => none
theorem sx_copy_spec {n : Nat} {lv : mx_L} {st : List Value} {h : mx_H} {q : mx_S} (hq : sx_copy n lv st h = some q) : ∃ (k dp sp : Int32) (a b n0 n1 : Nat) (f g : Nat → Int32) (r : List Value), st = .int k :: .int dp :: .ref b :: .int sp :: .ref a :: r ∧ mx_get h a = some (.inl (false, n0, f)) ∧ mx_get h b = some (.inl (false, n1, g)) ∧ ¬ sp < 0 ∧ ¬ dp < 0 ∧ ¬ k < 0 ∧ sp.toNatClampNeg + k.toNatClampNeg ≤ n0 ∧ dp.toNatClampNeg + k.toNatClampNeg ≤ n1 ∧ (r.map fun v => v.category).sum ≤ 8 ∧ q = (n, lv, r, mx_set h b (.inl (false, n1, va_cpy f g sp.toNatClampNeg dp.toNatClampNeg k.toNatClampNeg))) := by
  unfold sx_copy at hq
  split at hq
  · rename_i k dp b sp a r
    split at hq
    · rename_i x y hx hy
      split at hq
      · rename_i hc
        cases hq
        exact ⟨k, dp, sp, a, b, x.2.1, y.2.1, x.2.2, y.2.2, r, rfl, by rw [hx, ← hc.1], by rw [hy, ← hc.2.1], hc.2.2.1, hc.2.2.2.1, hc.2.2.2.2.1, hc.2.2.2.2.2.1, hc.2.2.2.2.2.2.1, hc.2.2.2.2.2.2.2, rfl⟩
      · cases hq
    · cases hq
  · cases hq
theorem sn_copy {own ynm : String} {cc : ByteArray} {nL : Nat} {ret : Option FieldType} {fr lc pc idx : Nat} (hd : decode cc pc = .ok (.invokestatic idx, 3)) (hw : Cond.methodLink own idx arraycopyName ∈ mx_tb) (hw2 : Cond.native arraycopyName ∈ mx_tb) (hw3 : Cond.static arraycopyName ∈ mx_tb) (hw4 : Cond.initialized "java/lang/System" ∈ mx_tb) (h1 : 1 ≤ fr) (h2 : 8 + (nativeFrameWords "java/lang/System" "arraycopy" 5 + 11) ≤ lc) : mx_W own ynm cc nL ret fr lc pc (sx_copy (pc + 3)) := by
  refine ⟨fun lv st h q hq => ?_, ?_⟩
  · obtain ⟨k, dp, sp, a, b, n0, n1, f, g, r, -, -, -, -, -, -, -, -, -, rfl⟩ := sx_copy_spec hq
    exact ⟨Nat.le_refl _, Nat.le_refl _, rfl⟩
  · intro p l e R s m args below meth c D cI cZ A g0 Q hfr hlc X lv st h q hq H locs ls cells slots hR hS hl hcs hss kk
    obtain ⟨k, dp, sp, a, b, n0, n1, f, g, r, rfl, hga, hgb, c1, c2, c3, c4, c5, c6, rfl⟩ := sx_copy_spec hq
    obtain ⟨hx, hb, hml, hr, hown, hts, -, hname, hK, hN, hZ, hA⟩ := X
    obtain ⟨hat, -⟩ := hR.2.2 a _ hga
    obtain ⟨hbt, hAb⟩ := hR.2.2 b _ hgb
    refine mx_Wcopy hx hb (by rw [hml]; exact hl.1.symm) hown (hts _ hw) (hts _ hw2) (hts _ hw3) (hts _ hw4) (hK.2 0 _ rfl).1 hat hbt c1 c2 c3 c4 c5 (Nat.le_trans h1 hfr) (by omega) hd fun H1 L hL e1 e2 e3 => ?_
    have h1 := kk H1 (locs ++ L) ls (mx_R.set (c' := .inl (false, n1, va_cpy f g sp.toNatClampNeg dp.toNatClampNeg k.toNatClampNeg)) hR hgb e1 e2 e3) ⟨Nat.le_trans hS.1 (by rw [e2]; exact Nat.le_refl _), fun q g1 g2 => (e3 q (fun z => g2 (by rw [z]; exact hAb))).trans (hS.2.1 q g1 g2), fun q hq => (List.mem_append.mp hq).elim (hS.2.2 q) (fun z => by rw [hL q z]; exact hAb)⟩ hl
    simp only [mx_set, Nat.sub_self, Nat.add_zero] at h1
    exact h1
/-! Math.min of ints -/
def sx_min (n : Nat) : mx_F := fun lv st h => match st with
  | .int y :: .int x :: r => if (r.map fun v => v.category).sum ≤ 8 then some (n, lv, .int (if y < x then y else x) :: r, h) else none
  | _ => none
theorem sn_min {own ynm : String} {cc : ByteArray} {nL : Nat} {ret : Option FieldType} {fr lc pc idx : Nat} (hd : decode cc pc = .ok (.invokestatic idx, 3)) (hw : Cond.methodLink own idx Lib.Math.min.name ∈ mx_tb) (hw2 : Cond.static Lib.Math.min.name ∈ mx_tb) (hw3 : Cond.initialized "java/lang/Math" ∈ mx_tb) (hw4 : Cond.code Lib.Math.min.name Lib.Math.min.code 2 (some .int) ∈ mx_tb) (h1 : 1 ≤ fr) (h2 : 21 ≤ lc) : mx_W own ynm cc nL ret fr lc pc (sx_min (pc + 3)) := by
  have sp : ∀ lv st h q, sx_min (pc + 3) lv st h = some q → ∃ (x y : Int32) (r : List Value), st = .int y :: .int x :: r ∧ (r.map fun v => v.category).sum ≤ 8 ∧ q = (pc + 3, lv, .int (if y < x then y else x) :: r, h) := by
    intro lv st h q hq
    unfold sx_min at hq
    split at hq
    · rename_i y x r
      split at hq
      · rename_i hc
        cases hq
        exact ⟨x, y, r, rfl, hc, rfl⟩
      · cases hq
    · cases hq
  refine ⟨fun lv st h q hq => ?_, ?_⟩
  · obtain ⟨x, y, r, -, -, rfl⟩ := sp _ _ _ _ hq
    exact ⟨Nat.le_refl _, Nat.le_refl _, rfl⟩
  · intro p l e R s m args below meth c D cI cZ A g0 Q hfr hlc X lv st h q hq H locs ls cells slots hR hS hl hcs hss kk
    obtain ⟨x, y, r, rfl, hc, rfl⟩ := sp _ _ _ _ hq
    obtain ⟨hx, hb, hml, hr, hown, hts, -⟩ := X
    have k1 := kk H locs ls hR hS hl
    simp only [Nat.sub_self, Nat.add_zero] at hcs hss k1
    exact va_mmin hx hb (by rw [hml]; exact hl.1.symm) hown (hts _ hw) (hts _ hw2) (hts _ hw3) (hts _ hw4) (Nat.le_trans h1 hfr) (by omega) hcs hss hd k1
