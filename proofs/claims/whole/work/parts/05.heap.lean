/-! FIELDS, ARRAYS, NEW CELLS -/
theorem mx_P1 {D : va_G} {q : Nat × va_E} {H : Heap} (h : va_at D mx_cl q H) : va_P D mx_cl [q] H := by
  intro k x hx
  cases k with
  | zero => cases hx; exact h
  | succ k => simp at hx
theorem mx_get_set (h : mx_H) (a : Nat) (c : mx_C) (q : Nat) : mx_get (mx_set h a c) q = if q = a then some c else mx_get h q := rfl
theorem mx_get_push (h : mx_H) (n : Nat) (c : mx_C) (q : Nat) : mx_get (mx_push h n c) q = if q = h.1 then some c else mx_get h q := rfl
theorem mx_R.set {D : va_G} {cI cZ : ClassId} {A : Nat → Prop} {g : mx_G} {h : mx_H} {H H' : Heap} {a : Nat} {c c' : mx_C} (hR : mx_R D cI cZ A g h H) (hg : mx_get h a = some c) (he : va_at D mx_cl (a, mx_e cI cZ c') H') (hz : H'.size = H.size) (ho : ∀ q : Nat, q ≠ a → H'[q]? = H[q]?) : mx_R D cI cZ A g (mx_set h a c') H' := by
  refine ⟨hz.trans hR.1, hR.2.1, fun q x hx => ?_⟩
  rw [mx_get_set] at hx
  by_cases hq : q = a
  · rw [if_pos hq] at hx
    cases hx
    subst hq
    exact ⟨he, (hR.2.2 q c hg).2⟩
  · rw [if_neg hq] at hx
    obtain ⟨h1, h2⟩ := hR.2.2 q x hx
    exact ⟨h1.kept (ho q hq), h2⟩
theorem mx_R.push {D : va_G} {cI cZ : ClassId} {A : Nat → Prop} {g : mx_G} {h : mx_H} {H H' : Heap} {n : Nat} {c' : mx_C} (hR : mx_R D cI cZ A g h H) (he : va_at D mx_cl (h.1, mx_e cI cZ c') H') (hz : H'.size = h.1 + 1) (ho : ∀ q : Nat, q < h.1 → H'[q]? = H[q]?) (hA : A h.1) : mx_R D cI cZ A g (mx_push h n c') H' := by
  refine ⟨hz, hR.2.1, fun q x hx => ?_⟩
  rw [mx_get_push] at hx
  by_cases hq : q = h.1
  · rw [if_pos hq] at hx
    cases hx
    subst hq
    exact ⟨he, hA⟩
  · rw [if_neg hq] at hx
    obtain ⟨h1, h2⟩ := hR.2.2 q x hx
    exact ⟨h1.kept (ho q (by have := h1.lt; rw [hR.1] at this; exact this)), h2⟩
theorem mx_S.push {A : Nat → Prop} {H0 H H' : Heap} {locs : List Loc} {n : Nat} (hS : va_S A H0 H locs) (hz0 : H.size = n) (hz : H'.size = n + 1) (ho : ∀ q : Nat, q < n → H'[q]? = H[q]?) : va_S A H0 H' locs :=
  ⟨Nat.le_trans hS.1 (by omega), fun q h1 h2 => (ho q (by have := hS.1; omega)).trans (hS.2.1 q h1 h2), hS.2.2⟩
section SH
variable {own ynm : String} {cc : ByteArray} {nL : Nat} {ret : Option FieldType} {fr lc pc : Nat}
def sx_getf (ci k n : Nat) : mx_F := fun lv st h => match st with
  | .ref a :: r => (match mx_get h a with
    | some (.inr o) => if o.1 = ci then (match o.2[k]? with
      | some v => some (n, lv, v :: r, h)
      | none => none) else none
    | _ => none)
  | _ => none
theorem sx_getf_spec {ci k n : Nat} {lv : mx_L} {st : List Value} {h : mx_H} {q : mx_S} (hq : sx_getf ci k n lv st h = some q) : ∃ (a : Nat) (r : List Value) (fs : List Value) (v : Value), st = .ref a :: r ∧ mx_get h a = some (.inr (ci, fs)) ∧ fs[k]? = some v ∧ q = (n, lv, v :: r, h) := by
  unfold sx_getf at hq
  split at hq
  · rename_i a r
    split at hq
    · rename_i o ho
      split at hq
      · rename_i hc
        split at hq
        · rename_i v hv
          cases hq
          exact ⟨a, r, o.2, v, rfl, by rw [ho, ← hc], hv, rfl⟩
        · cases hq
      · cases hq
    · cases hq
  · cases hq
theorem sn_getf {ci k idx N : Nat} {C : String} {T : u_T} (hd : decode cc pc = .ok (.getfield idx, 3)) (hc : mx_cl[ci]? = some (C, T, N)) (hin : ∀ w ∈ u_ws C T N, w ∈ mx_tb) (hk : k < N) (hw : Cond.fieldLink own idx (T k).1 (T k).2.1 (T k).2.2.1 ∈ mx_tb) : mx_W own ynm cc nL ret fr lc pc (sx_getf ci k (pc + 3)) := by
  refine mx_W.of (fun lv st h q hq => ?_) ?_
  · obtain ⟨a, r, fs, v, -, -, -, rfl⟩ := sx_getf_spec hq
    rfl
  · intro p l e R s m args below meth c D cI cZ A g Q hfr hlc X lv st h q hq H locs ls cells slots hR hS hl kk
    obtain ⟨a, r, fs, v, rfl, hg, hv, rfl⟩ := sx_getf_spec hq
    obtain ⟨hx, hb, hml, hr, hown, hts, -, -, hK, -⟩ := X
    exact va_get (D := D) (ci := ci) hx hb hts hin hown hK (mx_P1 (hR.2.2 a _ hg).1) 0 rfl hc k hk (hts _ hw) (fun _ h9 => h9) hv hd (kk ls hl)
theorem sn_getfN {ci k idx N : Nat} {C host : String} {T : u_T} (hd : decode cc pc = .ok (.getfield idx, 3)) (hc : mx_cl[ci]? = some (C, T, N)) (hin : ∀ w ∈ u_ws C T N, w ∈ mx_tb) (hk : k < N) (hw : Cond.fieldLinkNest own idx (T k).1 (T k).2.1 (T k).2.2.1 host ∈ mx_nst) : mx_W own ynm cc nL ret fr lc pc (sx_getf ci k (pc + 3)) := by
  refine mx_W.of (fun lv st h q hq => ?_) ?_
  · obtain ⟨a, r, fs, v, -, -, -, rfl⟩ := sx_getf_spec hq
    rfl
  · intro p l e R s m args below meth c D cI cZ A g Q hfr hlc X lv st h q hq H locs ls cells slots hR hS hl kk
    obtain ⟨a, r, fs, v, rfl, hg, hv, rfl⟩ := sx_getf_spec hq
    obtain ⟨hx, hb, hml, hr, hown, hts, -, -, hK, hN, -⟩ := X
    exact va_getN (D := D) (ci := ci) hx hb hts hin hown hK (mx_P1 (hR.2.2 a _ hg).1) 0 rfl hc k hk (va_Nw.use rfl (hN _ hw)) (fun _ h9 => h9) hv hd (kk ls hl)
def sx_putf (ci k : Nat) (ty : FieldType) (n : Nat) : mx_F := fun lv st h => match st with
  | v :: .ref a :: r => (match mx_get h a with
    | some (.inr o) => if o.1 = ci ∧ k < o.2.length ∧ narrow ty v = v ∧ fits ty v = true then some (n, lv, r, mx_set h a (.inr (ci, o.2.set k v))) else none
    | _ => none)
  | _ => none
theorem sx_putf_spec {ci k n : Nat} {ty : FieldType} {lv : mx_L} {st : List Value} {h : mx_H} {q : mx_S} (hq : sx_putf ci k ty n lv st h = some q) : ∃ (a : Nat) (r : List Value) (fs : List Value) (v : Value), st = v :: .ref a :: r ∧ mx_get h a = some (.inr (ci, fs)) ∧ k < fs.length ∧ narrow ty v = v ∧ fits ty v = true ∧ q = (n, lv, r, mx_set h a (.inr (ci, fs.set k v))) := by
  unfold sx_putf at hq
  split at hq
  · rename_i v a r
    split at hq
    · rename_i o ho
      split at hq
      · rename_i hc
        cases hq
        exact ⟨a, r, o.2, v, rfl, by rw [ho, ← hc.1], hc.2.1, hc.2.2.1, hc.2.2.2, rfl⟩
      · cases hq
    · cases hq
  · cases hq
theorem sn_putf {ci k idx N : Nat} {C : String} {T : u_T} {ty : FieldType} (ty0 : Nat → FieldType) (hd : decode cc pc = .ok (.putfield idx, 3)) (hc : mx_cl[ci]? = some (C, T, N)) (hin : ∀ w ∈ u_ws C T N, w ∈ mx_tb) (hty : ∀ k, k < N → parseFieldDescriptor (T k).2.2.1 = some (ty0 k)) (hnm : ∀ a, a < N → ∀ b, b < N → a ≠ b → (T a).2.1 ≠ (T b).2.1) (hk : k < N) (hw : Cond.fieldLink own idx (T k).1 (T k).2.1 (T k).2.2.1 ∈ mx_tb) (hfin : (T k).2.2.2 = false ∨ ((T k).2.2.2 = true ∧ ynm = "<init>" ∧ (T k).1 = own)) (hpt : ty0 k = ty) : mx_W own ynm cc nL ret fr lc pc (sx_putf ci k ty (pc + 3)) := by
  refine ⟨fun lv st h q hq => ?_, ?_⟩
  · obtain ⟨a, r, fs, v, -, -, -, -, -, rfl⟩ := sx_putf_spec hq
    exact ⟨Nat.le_refl _, Nat.le_refl _, rfl⟩
  · intro p l e R s m args below meth c D cI cZ A g Q hfr hlc X lv st h q hq H locs ls cells slots hR hS hl hcs hss kk
    obtain ⟨a, r, fs, v, rfl, hg, hlen, hn, hfit, rfl⟩ := sx_putf_spec hq
    obtain ⟨hx, hb, hml, hr, hown, hts, -, hname, hK, -⟩ := X
    have hap := va_apart (own := own) hts hin ty0 hty hnm hK hc
    obtain ⟨⟨r0, hr0, cell, q1, q2, q3, q4⟩, hAa⟩ := hR.2.2 a _ hg
    cases Option.some.inj (hr0.symm.trans hc)
    obtain ⟨hSl, hfc, kC, hkC, hkind⟩ := hK.1 ci _ hc
    obtain ⟨cf, kf, fi, f, hi, hsl⟩ := hSl k hk
    have hst := (u_facts hfc hkC (u_lays hts hin hk) hi).1
    have hparse : parseFieldDescriptor (T k).2.2.1 = some ty := by rw [← hpt]; exact hty k hk
    have fin : ∀ H' : Heap, H'[a]? = some (cell.setSlot f.slot v) → H'.size = H.size → (∀ q, q ≠ a → H'[q]? = H[q]?) → W p l e R s m args below meth c H' (locs ++ [⟨a, f.slot⟩]) cells slots Q (F0 m (pc + 3) ls r) := by
      intro H' e1 e2 e3
      have h1 := kk H' (locs ++ [⟨a, f.slot⟩]) ls (mx_R.set (c' := .inr (ci, fs.set k v)) hR hg ⟨_, hc, t_OB.to (V := updV (vp_V fs) k v) ⟨_, e1, q2, q3, by rw [hsl]; exact t_set q4 hap hk v⟩ (fun j _ => vp_updV_set hlen v j)⟩ e2 e3) (hS.put e2 e3 hAa) hl
      simp only [mx_set, Nat.sub_self, Nat.add_zero] at h1
      exact h1
    rcases hfin with hf | ⟨hf, hyn, hdecl⟩
    · have hlay := hts _ (hin _ (u_in_lay hk))
      unfold u_lay at hlay
      rw [if_neg (by rw [hf]; decide)] at hlay
      have h6 := u_store hfc hkC hkind hlay hi hparse hn hfit
      exact W.putK hx hb (f := f) ⟨hown, hts _ hw, ⟨_, _, _, hi⟩, hst⟩ (by rw [q2]; exact h6) q1 q3 (by rw [hsl]; exact k2_hasslot (q4 k hk)) rfl rfl hd fin
    · have hlay := hts _ (hin _ (u_in_lay hk))
      unfold u_lay at hlay
      rw [if_pos hf] at hlay
      have hcf : m.cls = cf := by
        obtain ⟨_, _, c1, _, _, _, -, -, h1, -, -, -, h2, -⟩ := Cond.laysFinal_spec hlay
        have h3 : c1 = cf := congrArg (fun x => x.1) (Option.some.inj (h1.symm.trans hi))
        rw [hdecl] at h2
        exact (Option.some.inj (hown.symm.trans h2)).trans h3
      have h6 := u_fits hfc hkC hkind (Or.inr hlay) hi hparse hn hfit
      exact W.putFinK hx hb hown (hts _ hw) hi hst hcf (hname.trans hyn) (by rw [q2]; exact h6) q1 q3 (by rw [hsl]; exact k2_hasslot (q4 k hk)) rfl rfl hd fin
def sx_gets (k n : Nat) : mx_F := fun lv st h => some (n, lv, .ref (h.2.2.2.1 k) :: st, h)
theorem sn_getsN {k idx : Nat} {q0 : String × String × String} {host : String} (hd : decode cc pc = .ok (.getstatic idx, 3)) (hq0 : mx_sts[k]? = some q0) (hw : Cond.fieldLinkNest own idx q0.1 q0.2.1 q0.2.2 host ∈ mx_nst) : mx_W own ynm cc nL ret fr lc pc (sx_gets k (pc + 3)) := by
  refine mx_W.of (fun lv st h q hq => by cases hq; rfl) ?_
  intro p l e R s m args below meth c D cI cZ A g Q hfr hlc X lv st h q hq H locs ls cells slots hR hS hl kk
  cases hq
  obtain ⟨hx, hb, hml, hr, hown, hts, -, hname, hK, hN, hZ, -⟩ := X
  have k1 := kk ls hl
  rw [hR.2.1] at k1
  exact va_getsN hx hb (hZ.1 k q0 hq0) hS hown (va_Nw.use rfl (hN _ hw)) (fun _ h9 => h9) hd k1
def mx_rd (t : Bool) (i : Int32) (a : Nat) (h : mx_H) : Option Int32 := match mx_get h a with
  | some (.inl x) => if x.1 = t ∧ ¬ (i < 0 ∨ x.2.1 ≤ i.toNatClampNeg) then some (x.2.2 i.toNatClampNeg) else none
  | some (.inr _) => none
  | none => (match h.2.2.2.2 a with
    | some x => if t = false ∧ ¬ (i < 0 ∨ x.1 ≤ i.toNatClampNeg) then some (x.2 i.toNatClampNeg) else none
    | none => none)
def sx_ald (t : Bool) (n : Nat) : mx_F := fun lv st h => match st with
  | .int i :: .ref a :: r => (match mx_rd t i a h with
    | some v => some (n, lv, .int v :: r, h)
    | none => none)
  | _ => none
theorem sx_ald_spec {t : Bool} {n : Nat} {lv : mx_L} {st : List Value} {h : mx_H} {q : mx_S} (hq : sx_ald t n lv st h = some q) : ∃ (a : Nat) (i v : Int32) (r : List Value), st = .int i :: .ref a :: r ∧ mx_rd t i a h = some v ∧ q = (n, lv, .int v :: r, h) := by
  unfold sx_ald at hq
  split at hq
  · rename_i i a r
    split at hq
    · rename_i v hv
      cases hq
      exact ⟨a, i, v, r, rfl, hv, rfl⟩
    · cases hq
  · cases hq
theorem mx_rd_spec {t : Bool} {i v : Int32} {a : Nat} {h : mx_H} (hv : mx_rd t i a h = some v) : (∃ (n : Nat) (f : Nat → Int32), mx_get h a = some (.inl (t, n, f)) ∧ ¬ (i < 0 ∨ n ≤ i.toNatClampNeg) ∧ v = f i.toNatClampNeg) ∨ (t = false ∧ ∃ (n : Nat) (f : Nat → Int32), h.2.2.2.2 a = some (n, f) ∧ ¬ (i < 0 ∨ n ≤ i.toNatClampNeg) ∧ v = f i.toNatClampNeg) := by
  unfold mx_rd at hv
  split at hv
  · rename_i x hx
    split at hv
    · rename_i hc
      cases hv
      exact Or.inl ⟨x.2.1, x.2.2, by rw [hx, ← hc.1], hc.2, rfl⟩
    · cases hv
  · cases hv
  · split at hv
    · rename_i x hx
      split at hv
      · rename_i hc
        cases hv
        exact Or.inr ⟨hc.1, x.1, x.2, hx, hc.2, rfl⟩
      · cases hv
    · cases hv
theorem sn_iald (hd : decode cc pc = .ok (.iaload, 1)) : mx_W own ynm cc nL ret fr lc pc (sx_ald false (pc + 1)) := by
  refine mx_W.of (fun lv st h q hq => ?_) ?_
  · obtain ⟨a, i, v, r, -, -, rfl⟩ := sx_ald_spec hq
    rfl
  · intro p l e R s m args below meth c D cI cZ A g Q hfr hlc X lv st h q hq H locs ls cells slots hR hS hl kk
    obtain ⟨a, i, v, r, rfl, hv, rfl⟩ := sx_ald_spec hq
    obtain ⟨hx, hb, hml, hr, hown, hts, -, hname, hK, hN, hZ, -⟩ := X
    rcases mx_rd_spec hv with ⟨n, f, hg, hin, rfl⟩ | ⟨-, n, f, hg, hin, rfl⟩
    · exact va_iald (D := D) hx hb hK (mx_P1 (hR.2.2 a _ hg).1) 0 0 rfl rfl hin hd (kk ls hl)
    · rw [hR.2.1] at hg
      exact va_ti hx hb (hZ.2 a n f hg) hS hin rfl hd (kk ls hl)
theorem sn_zald (hd : decode cc pc = .ok (.baload, 1)) : mx_W own ynm cc nL ret fr lc pc (sx_ald true (pc + 1)) := by
  refine mx_W.of (fun lv st h q hq => ?_) ?_
  · obtain ⟨a, i, v, r, -, -, rfl⟩ := sx_ald_spec hq
    rfl
  · intro p l e R s m args below meth c D cI cZ A g Q hfr hlc X lv st h q hq H locs ls cells slots hR hS hl kk
    obtain ⟨a, i, v, r, rfl, hv, rfl⟩ := sx_ald_spec hq
    obtain ⟨hx, hb, hml, hr, hown, hts, -, hname, hK, hN, hZ, -⟩ := X
    rcases mx_rd_spec hv with ⟨n, f, hg, hin, rfl⟩ | ⟨h0, -⟩
    · exact va_zald (D := D) hx hb hK (mx_P1 (hR.2.2 a _ hg).1) 0 1 rfl rfl hin hd (kk ls hl)
    · cases h0
def mx_len (a : Nat) (h : mx_H) : Option Nat := match mx_get h a with
  | some (.inl x) => some x.2.1
  | some (.inr _) => none
  | none => (match h.2.2.2.2 a with
    | some x => some x.1
    | none => none)
def sx_alen (n : Nat) : mx_F := fun lv st h => match st with
  | .ref a :: r => (match mx_len a h with
    | some k => some (n, lv, .int (Int32.ofNat k) :: r, h)
    | none => none)
  | _ => none
theorem sn_alen (hd : decode cc pc = .ok (.arraylength, 1)) : mx_W own ynm cc nL ret fr lc pc (sx_alen (pc + 1)) := by
  have sp : ∀ lv st h q, sx_alen (pc + 1) lv st h = some q → ∃ (a k : Nat) (r : List Value), st = .ref a :: r ∧ mx_len a h = some k ∧ q = (pc + 1, lv, .int (Int32.ofNat k) :: r, h) := by
    intro lv st h q hq
    unfold sx_alen at hq
    split at hq
    · rename_i a r
      split at hq
      · rename_i k hk
        cases hq
        exact ⟨a, k, r, rfl, hk, rfl⟩
      · cases hq
    · cases hq
  refine mx_W.of (fun lv st h q hq => ?_) ?_
  · obtain ⟨a, k, r, -, -, rfl⟩ := sp _ _ _ _ hq
    rfl
  · intro p l e R s m args below meth c D cI cZ A g Q hfr hlc X lv st h q hq H locs ls cells slots hR hS hl kk
    obtain ⟨a, k, r, rfl, hk, rfl⟩ := sp _ _ _ _ hq
    obtain ⟨hx, hb, hml, hr, hown, hts, -, hname, hK, hN, hZ, -⟩ := X
    unfold mx_len at hk
    split at hk
    · rename_i x hg
      cases hk
      obtain ⟨t, n, f⟩ := x
      cases t
      · exact va_alen (D := D) hx hb hK (mx_P1 (hR.2.2 a _ hg).1) 0 0 rfl rfl rfl hd (kk ls hl)
      · exact va_alen (D := D) hx hb hK (mx_P1 (hR.2.2 a _ hg).1) 0 1 rfl rfl rfl hd (kk ls hl)
    · cases hk
    · split at hk
      · rename_i x hg
        cases hk
        rw [hR.2.1] at hg
        exact va_tlen hx hb (hZ.2 a x.1 x.2 hg) hS rfl hd (kk ls hl)
      · cases hk
def sx_ast (t : Bool) (n : Nat) : mx_F := fun lv st h => match st with
  | .int v :: .int i :: .ref a :: r => (match mx_get h a with
    | some (.inl x) => if x.1 = t ∧ ¬ (i < 0 ∨ x.2.1 ≤ i.toNatClampNeg) then some (n, lv, r, mx_set h a (.inl (t, x.2.1, upd x.2.2 i.toNatClampNeg (if t = true then vp_nar .boolean v else v)))) else none
    | _ => none)
  | _ => none
theorem sx_ast_spec {t : Bool} {n : Nat} {lv : mx_L} {st : List Value} {h : mx_H} {q : mx_S} (hq : sx_ast t n lv st h = some q) : ∃ (a : Nat) (i v : Int32) (r : List Value) (k : Nat) (f : Nat → Int32), st = .int v :: .int i :: .ref a :: r ∧ mx_get h a = some (.inl (t, k, f)) ∧ ¬ (i < 0 ∨ k ≤ i.toNatClampNeg) ∧ q = (n, lv, r, mx_set h a (.inl (t, k, upd f i.toNatClampNeg (if t = true then vp_nar .boolean v else v)))) := by
  unfold sx_ast at hq
  split at hq
  · rename_i v i a r
    split at hq
    · rename_i x hx
      split at hq
      · rename_i hc
        cases hq
        exact ⟨a, i, v, r, x.2.1, x.2.2, rfl, by rw [hx, ← hc.1], hc.2, rfl⟩
      · cases hq
    · cases hq
  · cases hq
theorem mx_arr_upd (cA : ClassId) (n k : Nat) (f : Nat → Int32) (v : Int32) : (vp_cell cA (n, .inl f)).setSlot k (.int v) = vp_cell cA (n, .inl (upd f k v)) := by
  rw [vp_cell_i, vp_cell_i, arrV_store]
  congr 2
  funext q
  unfold updV upd
  split <;> rfl
theorem sn_iast (hd : decode cc pc = .ok (.iastore, 1)) : mx_W own ynm cc nL ret fr lc pc (sx_ast false (pc + 1)) := by
  refine ⟨fun lv st h q hq => ?_, ?_⟩
  · obtain ⟨a, i, v, r, k, f, -, -, -, rfl⟩ := sx_ast_spec hq
    exact ⟨Nat.le_refl _, Nat.le_refl _, rfl⟩
  · intro p l e R s m args below meth c D cI cZ A g Q hfr hlc X lv st h q hq H locs ls cells slots hR hS hl hcs hss kk
    obtain ⟨a, i, v, r, k, f, rfl, hg, hin, rfl⟩ := sx_ast_spec hq
    obtain ⟨hx, hb, hml, hr, hown, hts, -, hname, hK, hN, hZ, -⟩ := X
    obtain ⟨hat, hAa⟩ := hR.2.2 a _ hg
    refine W.iast hx hb hat ((hK.2 0 _ rfl).1 k (fun j => .int (f j))) (fun q => by cases q) (by show ¬ (i < 0 ∨ (arrV _ _ _).slots.size ≤ _); rw [arrV_size]; exact hin) rfl rfl hd fun H1 e1 e2 e3 => ?_
    have h1 := kk H1 (locs ++ [⟨a, i.toNatClampNeg⟩]) ls (mx_R.set (c' := .inl (false, k, upd f i.toNatClampNeg v)) hR hg (by show H1[a]? = _; rw [e1]; exact congrArg some (mx_arr_upd _ _ _ _ _)) e2 e3) (hS.put e2 e3 hAa) hl
    simp only [mx_set, Nat.sub_self, Nat.add_zero] at h1
    exact h1
theorem sn_zast (hd : decode cc pc = .ok (.bastore, 1)) : mx_W own ynm cc nL ret fr lc pc (sx_ast true (pc + 1)) := by
  refine ⟨fun lv st h q hq => ?_, ?_⟩
  · obtain ⟨a, i, v, r, k, f, -, -, -, rfl⟩ := sx_ast_spec hq
    exact ⟨Nat.le_refl _, Nat.le_refl _, rfl⟩
  · intro p l e R s m args below meth c D cI cZ A g Q hfr hlc X lv st h q hq H locs ls cells slots hR hS hl hcs hss kk
    obtain ⟨a, i, v, r, k, f, rfl, hg, hin, rfl⟩ := sx_ast_spec hq
    obtain ⟨hx, hb, hml, hr, hown, hts, -, hname, hK, hN, hZ, -⟩ := X
    obtain ⟨hat, hAa⟩ := hR.2.2 a _ hg
    refine W.zast hx hb hat ((hK.2 1 _ rfl).1 k (fun j => .int (f j))) (fun q => by cases q) (by show ¬ (i < 0 ∨ (arrV _ _ _).slots.size ≤ _); rw [arrV_size]; exact hin) rfl rfl hd fun H1 e1 e2 e3 => ?_
    have h1 := kk H1 (locs ++ [⟨a, i.toNatClampNeg⟩]) ls (mx_R.set (c' := .inl (true, k, upd f i.toNatClampNeg (vp_nar .boolean v))) hR hg (by show H1[a]? = _; rw [e1]; exact congrArg some (mx_arr_upd _ _ _ _ _)) e2 e3) (hS.put e2 e3 hAa) hl
    simp only [mx_set, Nat.sub_self, Nat.add_zero] at h1
    exact h1
def sx_new (ci : Nat) (fs : List Value) (n : Nat) : mx_F := fun lv st h => some (n, lv, .ref h.1 :: st, mx_push h fs.length (.inr (ci, fs)))
theorem sn_new {ci idx N : Nat} {C : String} {T : u_T} {fs : List Value} (ty0 : Nat → FieldType) (hd : decode cc pc = .ok (.new idx, 3)) (hc : mx_cl[ci]? = some (C, T, N)) (hin : ∀ w ∈ u_ws C T N, w ∈ mx_tb) (hty : ∀ k, k < N → parseFieldDescriptor (T k).2.2.1 = some (ty0 k)) (hw : Cond.classLink own idx C ∈ mx_tb) (hw2 : Cond.instantiable C N ∈ mx_tb) (hw3 : Cond.initialized C ∈ mx_tb) (hlen : fs.length = N) (hfs : ∀ j, j < N → defaultValue (ty0 j) = vp_V fs j) : mx_W own ynm cc nL ret fr lc pc (sx_new ci fs (pc + 3)) := by
  refine ⟨fun lv st h q hq => ?_, ?_⟩
  · cases hq
    exact ⟨Nat.le_succ _, Nat.le_add_right _ _, rfl⟩
  · intro p l e R s m args below meth c D cI cZ A g Q hfr hlc X lv st h q hq H locs ls cells slots hR hS hl hcs hss kk
    cases hq
    obtain ⟨hx, hb, hml, hr, hown, hts, -, hname, hK, hN, hZ, hA⟩ := X
    subst hlen
    have e0 : h.1 + 1 - h.1 = 1 := by omega
    have e9 : h.2.1 + fs.length - h.2.1 = fs.length := by omega
    simp only [mx_push, e0, e9] at hcs hss kk
    have hKn := hK.1 ci _ hc
    refine W.newcK hx hb hown (hts _ hw) (hts _ hw2) (hts _ hw3) rfl hd hcs hss hKn.2.1 hR.1 fun H1 kC hkC e1 z1 o1 => ?_
    exact kk H1 locs ls (mx_R.push (n := fs.length) (c' := .inr (ci, fs)) hR ⟨_, hc, (u_born ty0 hts hin hKn hkC e1 hty).to hfs⟩ z1 o1 (hA _ (by rw [← hR.1]; exact hS.1))) (mx_S.push hS hR.1 z1 o1) hl
def sx_newa (t : Bool) (n : Nat) : mx_F := fun lv st h => match st with
  | .int k :: r => if ¬ k < 0 ∧ k.toNatClampNeg * 4 ≤ 536870912 then some (n, lv, .ref h.1 :: r, mx_push h k.toNatClampNeg (.inl (t, k.toNatClampNeg, fun _ => 0))) else none
  | _ => none
theorem sn_newi (hd : decode cc pc = .ok (.newarray .int, 2)) (hw : Cond.arrayClass .int ∈ mx_tb) : mx_W own ynm cc nL ret fr lc pc (sx_newa false (pc + 2)) := by
  refine ⟨fun lv st h q hq => ?_, ?_⟩
  · unfold sx_newa at hq
    split at hq
    · split at hq
      · cases hq
        exact ⟨Nat.le_succ _, Nat.le_add_right _ _, rfl⟩
      · cases hq
    · cases hq
  · intro p l e R s m args below meth c D cI cZ A g Q hfr hlc X lv st h q hq H locs ls cells slots hR hS hl hcs hss kk
    unfold sx_newa at hq
    split at hq
    · rename_i k r
      split at hq
      · rename_i hk
        cases hq
        obtain ⟨hx, hb, hml, hr, hown, hts, -, hname, hK, hN, hZ, hA⟩ := X
        have e0 : h.1 + 1 - h.1 = 1 := by omega
        have e9 : h.2.1 + k.toNatClampNeg - h.2.1 = k.toNatClampNeg := by omega
        simp only [mx_push, e0, e9] at hcs hss kk
        refine va_newaK hx hb (atype := .int) (hts _ hw) rfl hd rfl hk.1 rfl hk.2 hcs hss hR.1 fun H1 cA e1 z1 o1 hAr hNm => ?_
        have hcA : cA = cI := Option.some.inj (hNm.symm.trans (hK.2 0 _ rfl).2)
        subst hcA
        exact kk H1 locs ls (mx_R.push (n := k.toNatClampNeg) (c' := .inl (false, k.toNatClampNeg, fun _ => 0)) hR e1 z1 o1 (hA _ (by rw [← hR.1]; exact hS.1))) (mx_S.push hS hR.1 z1 o1) hl
      · cases hq
    · cases hq
theorem sn_newz (hd : decode cc pc = .ok (.newarray .boolean, 2)) (hw : Cond.arrayClass .boolean ∈ mx_tb) : mx_W own ynm cc nL ret fr lc pc (sx_newa true (pc + 2)) := by
  refine ⟨fun lv st h q hq => ?_, ?_⟩
  · unfold sx_newa at hq
    split at hq
    · split at hq
      · cases hq
        exact ⟨Nat.le_succ _, Nat.le_add_right _ _, rfl⟩
      · cases hq
    · cases hq
  · intro p l e R s m args below meth c D cI cZ A g Q hfr hlc X lv st h q hq H locs ls cells slots hR hS hl hcs hss kk
    unfold sx_newa at hq
    split at hq
    · rename_i k r
      split at hq
      · rename_i hk
        cases hq
        obtain ⟨hx, hb, hml, hr, hown, hts, -, hname, hK, hN, hZ, hA⟩ := X
        have e0 : h.1 + 1 - h.1 = 1 := by omega
        have e9 : h.2.1 + k.toNatClampNeg - h.2.1 = k.toNatClampNeg := by omega
        simp only [mx_push, e0, e9] at hcs hss kk
        refine va_newaK hx hb (atype := .boolean) (hts _ hw) rfl hd rfl hk.1 rfl (by show k.toNatClampNeg * 1 ≤ _; omega) hcs hss hR.1 fun H1 cA e1 z1 o1 hAr hNm => ?_
        have hcA : cA = cZ := Option.some.inj (hNm.symm.trans (hK.2 1 _ rfl).2)
        subst hcA
        exact kk H1 locs ls (mx_R.push (n := k.toNatClampNeg) (c' := .inl (true, k.toNatClampNeg, fun _ => 0)) hR e1 z1 o1 (hA _ (by rw [← hR.1]; exact hS.1))) (mx_S.push hS hR.1 z1 o1) hl
      · cases hq
    · cases hq
def sx_obj (n : Nat) : mx_F := fun lv st h => match st with
  | .ref _ :: r => if (r.map fun v => v.category).sum ≤ 8 then some (n, lv, r, h) else none
  | _ => none
theorem sn_obj {idx : Nat} (hd : decode cc pc = .ok (.invokespecial idx, 3)) (hw : Cond.methodLink own idx Lib.objectInit ∈ mx_tb) (hw2 : Cond.instanceMethod Lib.objectInit ∈ mx_tb) (hw3 : Cond.code Lib.objectInit ⟨#[0xb1]⟩ 1 none ∈ mx_tb) (h1 : 1 ≤ fr) (h2 : 20 ≤ lc) : mx_W own ynm cc nL ret fr lc pc (sx_obj (pc + 3)) := by
  refine mx_W.of (fun lv st h q hq => ?_) ?_
  · unfold sx_obj at hq
    split at hq
    · split at hq <;> cases hq
      rfl
    · cases hq
  · intro p l e R s m args below meth c D cI cZ A g Q hfr hlc X lv st h q hq H locs ls cells slots hR hS hl kk
    unfold sx_obj at hq
    split at hq
    · rename_i a r
      split at hq
      · rename_i hc
        cases hq
        obtain ⟨hx, hb, hml, hr, hown, hts, -⟩ := X
        exact W.objInit hx hb hown (hts _ hw) (hts _ hw2) (hts _ hw3) rfl (by rw [hml]; exact hl.1) rfl hd (Nat.le_trans h1 hfr) (by show 2 * 0 + _ + 12 ≤ _; omega) (kk ls hl)
      · cases hq
    · cases hq
end SH
