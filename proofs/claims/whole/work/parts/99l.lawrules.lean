/-! THE LAW'S RULES: two small heaps on one, and calls on either side -/
def i_law : mx_I := (⟨"RowCodeLaw", "law", "([I)Z"⟩, code, 7, ret, 11, 414)
abbrev lwA (s : State) : Nat → Prop := fun q => s.heap.size ≤ q
theorem xI_grow {z : Nat} {NK : List Nat} {c : Nat × Nat} {g : mx_G} {h : mx_H} {S : xS} (hI : xI z NK c g h S) (d : Nat) : xI z NK (c.1 + d, c.2) g (h.1 + d, h.2.1, h.2.2.1, h.2.2.2) S := by
  obtain ⟨⟨d1, d2, d3⟩, e, ar, f, h1, h2, ⟨g1, g2⟩, h4, h5, h6, h7⟩ := hI
  refine ⟨⟨d1, fun k hk => ?_, fun j hj => ?_⟩, e, ar, f, ?_, h2, ⟨g1, fun k hk => ⟨?_, (g2 k hk).2⟩⟩, h4, h5, h6, fun q hq => h7 q ?_⟩
  · have := d2 k hk; show z + k < c.1 + d; omega
  · have := d3 j hj; show z + j < c.1 + d; omega
  · show h.1 + d = c.1 + d + (NK.map e).sum; omega
  · have := (g2 k hk).1; show g.1 k < h.1 + d; omega
  · have hq : h.1 + d ≤ q := hq; omega
abbrev nums (S : xS) : Prop := ∀ k ∈ NK0, ∃ xs, S k = some (.inl xs)
theorem lawR_nums {z : Nat} {S : xS} {c : List II} {va fu : Int32} {lo wo : Nat → Int32} (h : lawR z S c va fu lo wo) : nums S := by
  obtain ⟨pj, ds, cm, wt, jd, b, pl, us, fs, ga, ns, as, t, gg, m, ld, ⟨h0, ⟨j1, j2, j3, j4, j5, j6, j7, j8⟩, ⟨i1, i2, i3, i4, i5, i6, i7, i8, i9⟩, h30, h31, h33, h35, ⟨g1, g2, g3, g4⟩, h44, h48, -⟩, -⟩ := h
  refine List.forall_mem_cons.mpr ⟨⟨_, j2⟩, List.forall_mem_cons.mpr ⟨⟨_, j3⟩, List.forall_mem_cons.mpr ⟨⟨_, j5⟩, List.forall_mem_cons.mpr ⟨⟨_, j6⟩, List.forall_mem_cons.mpr ⟨⟨_, j7⟩, List.forall_mem_cons.mpr ⟨⟨_, j8⟩, List.forall_mem_cons.mpr ⟨⟨_, i2⟩, List.forall_mem_cons.mpr ⟨⟨_, i3⟩, List.forall_mem_cons.mpr ⟨⟨_, i5⟩, List.forall_mem_cons.mpr ⟨⟨_, i6⟩, List.forall_mem_cons.mpr ⟨⟨_, i8⟩, List.forall_mem_cons.mpr ⟨⟨_, i9⟩, List.forall_mem_cons.mpr ⟨⟨_, h31⟩, List.forall_mem_cons.mpr ⟨⟨_, h33⟩, List.forall_mem_cons.mpr ⟨⟨_, h35⟩, List.forall_mem_cons.mpr ⟨⟨_, g2⟩, List.forall_mem_cons.mpr ⟨⟨_, g3⟩, List.forall_mem_cons.mpr ⟨⟨_, g4⟩, List.forall_mem_cons.mpr ⟨⟨_, h48⟩, fun _ h => absurd h List.not_mem_nil⟩⟩⟩⟩⟩⟩⟩⟩⟩⟩⟩⟩⟩⟩⟩⟩⟩⟩⟩
/-- both small heaps hold on H, apart, and the long array lies beside them -/
def LH (s : State) (D : va_G) (cI cZ cJ : ClassId) (g : mx_G) (z zM w j : Nat) (H : Heap) (locs : List Loc) (cells slots : Nat) (SR SM : xS) (x : Int64) : Prop :=
  ∃ (hR hM : mx_H) (cR cM : Nat × Nat), mx_R D cI cZ (lwA s) g hR H ∧ mx_R D cI cZ (lwA s) g hM H ∧ va_S (lwA s) s.heap H locs ∧ xI z NK0 cR g hR SR ∧ xI zM [] cM g hM SM ∧ (∀ q, ¬ mx_get hM q = none → mx_get hR q = none) ∧ mx_get hR w = none ∧ mx_get hM w = none ∧ H[w]? = some (arrV cJ 1 (fun _ => .long x)) ∧ nums SR ∧ cells + (cR.1 + 247 - hR.1) ≤ 1000 + j ∧ slots + (cR.2 + 4980128 - hR.2.1) ≤ 5000000 + 6 * j
/-- what stands still all through the law -/
def LK (p : Program) (l : Launch) (s : State) (m : MethodId) (meth : Method) (c : Code) (D : va_G) (cI cZ cJ : ClassId) (g : mx_G) (b z w : Nat) : Prop :=
  mx_X i_law.1.cls i_law.1.name i_law.2.1 i_law.2.2.1 i_law.2.2.2.1 p room_1 s m #[Value.ref b] meth c D cI cZ (lwA s) g ∧ gOK g s.heap.size ∧ oaT s ∧ tZ "UNASSIGNED_STACK" dSTE (lwA s) s s.heap ∧ tZ "SUPPRESSED_SENTINEL" dLST (lwA s) s s.heap ∧ (∃ q, vk_R "RowCode" 121 "no such local" q s) ∧ (∃ q, vk_R "RowCode" 136 "no such word" q s) ∧ ArrOfT s cJ .long ∧ l.flags = pinnedFlags ++ [noTraceFlag] ∧ s.heap.size ≤ z ∧ s.heap.size ≤ w
theorem mx_R.move {D : va_G} {cI cZ : ClassId} {A : Nat → Prop} {g : mx_G} {h : mx_H} {H H1 : Heap} (hR : mx_R D cI cZ A g h H) (hk : ∀ q : Nat, q < H.size → ¬ mx_get h q = none → H1[q]? = H[q]?) : mx_R D cI cZ A g (H1.size, h.2.1, h.2.2.1, h.2.2.2) H1 := by
  refine ⟨rfl, hR.2.1, fun a x hx => ?_⟩
  have hx : mx_get h a = some x := hx
  have h1 := (hR.2.2 a x hx).1
  exact ⟨h1.kept (hk a h1.lt (by rw [hx]; simp)), (hR.2.2 a x hx).2⟩
section LAWW
variable {p : Program} {l : Launch} {e : Env} {s : State} {m : MethodId} {below : List Frame} {meth : Method} {c : Code} {H : Heap} {locs : List Loc} {cells slots pc : Nat} {Q : State → Prop} {ls : Array Slot} {st rest : List Value} {lv lv' : mx_L} {D : va_G} {cI cZ cJ : ClassId} {g : mx_G} {z zM w b jj : Nat} {SR SM : xS} {x : Int64} {P : Option Value → xS → Prop} {j : mx_I} {cl : Nat × Nat × Option (Option Nat) × Nat}
theorem lw_R (hC : LK p l s m meth c D cI cZ cJ g b z w) (hj : mx_I0 cl.1 = some j) (hcall : mx_call i_law j pc cl) (hrcv : cl.2.2.1 = some (some 9)) (hpok : mx_pok cl st = true) (ha : ∃ As, (st.take cl.2.1).reverse = .ref (z + 0) :: As) (hlv : lv_args 0 (st.take cl.2.1).reverse = lv') (hrest : st.drop cl.2.1 = rest) (hr0 : ∃ fs, SR 0 = some (.inr (.inr (9, fs)))) (hjj : jj ≤ 600) (hl : lv_has ls 7 lv)
    (hx : xw z NK0 g cl.1 0 lv' [] SR P) (hn : ∀ v S', P v S' → nums S') (hL : LH s D cI cZ cJ g z zM w jj H locs cells slots SR SM x)
    (kk : ∀ (v : Option Value) (S' : xS) (H1 : Heap) (locs1 : List Loc) (c1 s1 : Nat), P v S' → LH s D cI cZ cJ g z zM w jj H1 locs1 c1 s1 S' SM x → W p l e room_1 s m #[Value.ref b] below meth c H1 locs1 c1 s1 Q (F0 m (pc + 3) ls (v.toList ++ rest))) : W p l e room_1 s m #[Value.ref b] below meth c H locs cells slots Q (F0 m pc ls st) := by
  obtain ⟨hR, hM, cR, cM, r1, r2, vs, i1, i2, dj, w1, w2, w3, nm, b1, b2⟩ := hL
  have hz : H.size = hR.1 := r1.1
  have hz2 : H.size = hM.1 := r2.1
  have hok : mx_cok cl st hR = true := by
    refine mx_cok_of hpok ?_
    obtain ⟨As, hAs⟩ := ha
    obtain ⟨fs, hfs⟩ := hr0
    rw [hrcv, hAs]
    simp only [mx_rcv, i1.obj hfs]
    rfl
  obtain ⟨k1, k2⟩ := xI_cap i1 nm
  have k1 : hR.1 ≤ cR.1 + 247 := k1
  have k2 : hR.2.1 ≤ cR.2 + 4980128 := k2
  refine mx_callX (i := i_law) (K1 := cR.1 + 247) (K2 := cR.2 + 4980128) (lv := lv) hC.1 (by decide) (by decide) hj hcall hok hlv hrest hx i1 (fun v h' S' hP hI' => xI_cap hI' (hn v S' hP)) r1 vs hl (by show cells + (cR.1 + 247 - hR.1) ≤ 601024; omega) (by show slots + (cR.2 + 4980128 - hR.2.1) ≤ 7293034; omega) (fun v h' S' H1 locs1 hP hI' hR1 hS1 hk1 hd1 m1 m2 => ?_)
  obtain ⟨k3, k4⟩ := xI_cap hI' (hn v S' hP)
  have k3 : h'.1 ≤ cR.1 + 247 := k3
  have k4 : h'.2.1 ≤ cR.2 + 4980128 := k4
  have hz1 : H1.size = h'.1 := hR1.1
  have hwl : w < H.size := (Array.getElem?_eq_some_iff.mp w3).1
  refine kk v S' H1 locs1 _ _ hP ⟨h', (H1.size, hM.2.1, hM.2.2.1, hM.2.2.2), cR, (cM.1 + (H1.size - hM.1), cM.2), hR1, r2.move (fun q hq hg => hk1 q hq (dj q hg)), hS1, hI', ?_, fun q hg => ?_, hd1 w (by omega) w1, w2, (hk1 w hwl w1).trans w3, hn v S' hP, by omega, by omega⟩
  · have := xI_grow i2 (H1.size - hM.1)
    rwa [show hM.1 + (H1.size - hM.1) = H1.size by omega] at this
  · have hg : ¬ mx_get hM q = none := hg
    refine hd1 q ?_ (dj q hg)
    cases hv : mx_get hM q with
    | none => exact absurd hv hg
    | some y => have := (r2.2.2 q y hv).1.lt; show q < hR.1; rw [← hz]; exact this
theorem lw_M (hC : LK p l s m meth c D cI cZ cJ g b z w) (hj : mx_I0 cl.1 = some j) (hcall : mx_call i_law j pc cl) (hrcv : cl.2.2.1 = some (some 10)) (hpok : mx_pok cl st = true) (ha : ∃ As, (st.take cl.2.1).reverse = .ref (zM + 52) :: As) (hlv : lv_args 0 (st.take cl.2.1).reverse = lv') (hrest : st.drop cl.2.1 = rest) (hr0 : ∃ fs, SM 52 = some (.inr (.inr (10, fs)))) (hjj : jj ≤ 600) (hl : lv_has ls 7 lv)
    (hx : xw zM [] g cl.1 0 lv' [] SM P) (hL : LH s D cI cZ cJ g z zM w jj H locs cells slots SR SM x)
    (kk : ∀ (v : Option Value) (S' : xS) (H1 : Heap) (locs1 : List Loc) (c1 s1 : Nat), P v S' → LH s D cI cZ cJ g z zM w jj H1 locs1 c1 s1 SR S' x → W p l e room_1 s m #[Value.ref b] below meth c H1 locs1 c1 s1 Q (F0 m (pc + 3) ls (v.toList ++ rest))) : W p l e room_1 s m #[Value.ref b] below meth c H locs cells slots Q (F0 m pc ls st) := by
  obtain ⟨hR, hM, cR, cM, r1, r2, vs, i1, i2, dj, w1, w2, w3, nm, b1, b2⟩ := hL
  have hz : H.size = hR.1 := r1.1
  have hz2 : H.size = hM.1 := r2.1
  obtain ⟨n1, n2⟩ := xI_nil i2
  have hok : mx_cok cl st hM = true := by
    refine mx_cok_of hpok ?_
    obtain ⟨As, hAs⟩ := ha
    obtain ⟨fs, hfs⟩ := hr0
    rw [hrcv, hAs]
    simp only [mx_rcv, i2.obj hfs]
    rfl
  refine mx_callX (i := i_law) (K1 := cM.1) (K2 := cM.2) (lv := lv) hC.1 (by decide) (by decide) hj hcall hok hlv hrest hx i2 (fun v h' S' hP hI' => ⟨Nat.le_of_eq (xI_nil hI').1, Nat.le_of_eq (xI_nil hI').2⟩) r2 vs hl (by show cells + (cM.1 - hM.1) ≤ 601024; omega) (by show slots + (cM.2 - hM.2.1) ≤ 7293034; omega) (fun v h' S' H1 locs1 hP hI' hR1 hS1 hk1 hd1 m1 m2 => ?_)
  obtain ⟨n3, n4⟩ := xI_nil hI'
  have hz1 : H1.size = h'.1 := hR1.1
  have hwl : w < H.size := (Array.getElem?_eq_some_iff.mp w3).1
  have hRe : (H1.size, hR.2.1, hR.2.2.1, hR.2.2.2) = hR := by
    show (H1.size, hR.2) = (hR.1, hR.2)
    rw [show H1.size = hR.1 by omega]
  have r1' := r1.move (H1 := H1) (fun q hq hg => hk1 q hq (by
    cases hv : mx_get hM q with
    | none => rfl
    | some y => exact absurd (dj q (by rw [hv]; simp)) hg))
  rw [hRe] at r1'
  refine kk v S' H1 locs1 _ _ hP ⟨hR, h', cR, cM, r1', hR1, hS1, i1, hI', fun q hg => ?_, w1, hd1 w (by omega) w2, (hk1 w hwl w2).trans w3, nm, by omega, by omega⟩
  cases hv : mx_get hR q with
  | none => rfl
  | some y =>
    have hlt := (r1.2.2 q y hv).1.lt
    have hq : mx_get hM q = none := by
      cases hv2 : mx_get hM q with
      | none => rfl
      | some y2 => rw [dj q (by rw [hv2]; simp)] at hv; cases hv
    exact absurd (hd1 q (by omega) hq) hg
end LAWW
