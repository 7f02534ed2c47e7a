/-! A CALL THAT THROWS, AND THE HANDLER THAT CATCHES IT -/
theorem sb_heap {s t : State} {k n : Nat} (h : s.sameButNew t [] k n) : ∀ q : Nat, q < s.heap.size → t.heap[q]? = s.heap[q]? := by
  intro q hq
  have hc := Array.getElem?_eq_getElem hq
  obtain ⟨c', h1, h2, h3, h4⟩ := h.2.2.2.2.2 q _ hc
  have e : c'.slots = (s.heap[q]).slots := Array.ext_getElem? (fun i => h4 i List.not_mem_nil)
  rw [h1, hc, h2, e]
theorem tPre.calling {D : va_G} {cI cZ : ClassId} {g : mx_G} {z sz q idx : Nat} {tx : String} {i : Int32} {a : Array Value} {U : State} (gf : JFrame) (mk : MethodId) (h : tPre D cI cZ g z sz q idx tx i a U) : tPre D cI cZ g z sz q idx tx i a (U.calling gf mk a) := by
  obtain ⟨h0, h1, h2, h3, h4, h5, h6, h7, h8⟩ := h
  exact ⟨h0, h1, va_K.moved (u := U) (U := U.calling gf mk a) (Vm.Alike.refl U.vm) h2, mx_nst_same (u := U) (U := U.calling gf mk a) rfl h3, mx_Z.move (s := U) (U := U.calling gf mk a) (Vm.Alike.refl U.vm) h4, oaT.same (u := U) (U := U.calling gf mk a) rfl h5, tZ.moved (u := U) (U := U.calling gf mk a) (Vm.Alike.refl U.vm) h6, tZ.moved (u := U) (U := U.calling gf mk a) (Vm.Alike.refl U.vm) h7, vk_R.same (u := U) (U := U.calling gf mk a) rfl h8⟩
theorem tPre.warm {D : va_G} {cI cZ : ClassId} {g : mx_G} {z sz q idx : Nat} {tx : String} {i : Int32} {a a' : Array Value} {s U : State} (hW : s.WarmedH U.vm) (hz : U.heap = s.heap) (h : tPre D cI cZ g z sz q idx tx i a s) (ha : a' = ([.ref z, .int i] : List Value).toArray) : tPre D cI cZ g z sz q idx tx i a' U := by
  obtain ⟨-, h1, h2, h3, h4, h5, h6, h7, h8⟩ := h
  refine ⟨ha, by rw [hz]; exact h1, va_K.moved hW.alike h2, mx_nst_warm hW h3, ?_, oaT.warm hW h5, ?_, ?_, vk_R.warm hW h8⟩
  · rw [hz]; exact mx_Z.move hW.alike h4
  · rw [hz]; exact tZ.moved hW.alike h6
  · rw [hz]; exact tZ.moved hW.alike h7
/-- what the callee's end says to the caller -/
def cPost (A : Pt) (_ : Array Value) (x : Addr) (B : Pt) : Prop :=
  x = A.U.heap.size ∧ B.U.heap.size = A.U.heap.size + 1 ∧ (∀ q : Nat, q < A.U.heap.size → B.U.heap[q]? = A.U.heap[q]?) ∧ (∃ ce : Cell, B.U.heap[x]? = some ce ∧ A.U.vm.findClass nseN = some ce.cls ∧ ce.vm = .none) ∧ B.locs = A.locs ++ [] ∧ B.cells = A.cells + 1 ∧ B.slots = A.slots + 6
theorem back_t {l : Launch} {R : Room} {p : Program} {e : Env} {below : List Frame} {s : State} {sargs : Array Value} {jT : mx_I} {D : va_G} {cI cZ : ClassId} {g : mx_G} {z sz q idx : Nat} {tx : String} {i : Int32}
    (hM : MetFree l jT.1 (headSpec (mx_ws jT) rmT) (tPre D cI cZ g z sz q idx tx i) (fun _ _ _ _ _ => True) tPost) (hfr : 7 ≤ R.frames) (hlo : 8 + (jT.2.2.1 + 11) + 100 ≤ R.locals) (hini : Cond.initialized jT.1.cls ∈ mx_tb) :
    BackT l R p e below s sargs jT.1 3 8 (fun A a => tPre D cI cZ g z sz q idx tx i a A.U ∧ A.cells + 1 ≤ R.cells ∧ A.slots + 6 ≤ R.slots ∧ ∀ w ∈ mx_ws jT, w.before a A.U = true) cPost := by
  refine BackT.of_free (S := headSpec (mx_ws jT) rmT) (bytes := jT.2.1) (maxL := jT.2.2.1) (ret := jT.2.2.2.1) (E := fun _ _ _ _ L k n => L = [] ∧ k = 1 ∧ n = 6) hM hfr hlo ?_ ?_ (fun _ _ _ _ _ _ _ _ _ => trivial) ?_ ?_
  · intro m meth c A a X hp
    exact ⟨atoms_intro fun w hw => hp.2.2.2 w hw, hp.2.2.2 _ List.mem_cons_self, hp.2.2.2 _ (List.mem_cons_of_mem _ hini), hp.2.1, hp.2.2.1⟩
  · intro m meth c A a gf mk X hp
    exact hp.1.calling gf mk
  · intro a first o t hq
    exact ⟨[], 1, 6, ⟨⟨_, hq.1⟩, hq.2.1, hq.2.2.1⟩, rfl, rfl, rfl⟩
  · intro m meth c A a gf mk v t L k n X hp hq hF hE
    obtain ⟨rfl, rfl, rfl⟩ := hE
    obtain ⟨hv, hW, hsame, ce, hce, hcl, hvm⟩ := hq
    cases hv
    have hk := sb_heap hsame
    have h1 : (A.U.calling gf mk a).heap.size < t.heap.size := (Array.getElem?_eq_some_iff.mp hce).1
    have h2 : t.heap.size ≤ (A.U.calling gf mk a).heap.size + 1 := hsame.2.2.1
    exact ⟨rfl, by show t.heap.size = (A.U.calling gf mk a).heap.size + 1; omega, fun q hq => hk q hq, ⟨ce, hce, hcl, hvm⟩, rfl, rfl, rfl⟩
set_option maxHeartbeats 1000000 in
theorem W_threw {p : Program} {l : Launch} {e : Env} {R : Room} {s : State} {m : MethodId} {args : Array Value} {below : List Frame} {meth : Method} {c : Code} {H : Heap} {cells slots : Nat} {Q : State → Prop} {ls : Array Slot} {jT : mx_I} {D : va_G} {cI cZ : ClassId} {g : mx_G} {z sz q idx ix w : Nat} {tx : String} {i : Int32} {cc : ByteArray}
    (hM : MetFree l jT.1 (headSpec (mx_ws jT) rmT) (tPre D cI cZ g z sz q idx tx i) (fun _ _ _ _ _ => True) tPost) (hfr : 7 ≤ R.frames) (hlo : 8 + (jT.2.2.1 + 11) + 100 ≤ R.locals) (hy1 : jT.1.cls = "RowCode") (hcw : Cond.code jT.1 jT.2.1 jT.2.2.1 jT.2.2.2.1 ∈ mx_tb) (hini : Cond.initialized jT.1.cls ∈ mx_tb) (him : Cond.instanceMethod jT.1 ∈ mx_tb) (hse : Cond.selects "RowCode" jT.1 jT.1 ∈ mx_tb) (hli : Cond.methodLink "RowCodeLaw" ix jT.1 ∈ mx_tb) (hcl : Cond.classLink "RowCodeLaw" 13 nseN ∈ mx_tb) (hlenP : (parseMethodDescriptor jT.1.desc).map (fun d => d.parameters.length) = some 1)
    (hx : p.tables.exec = Jvm.exec) (hb : c.code = cc) (hml : c.maxLocals = 4) (hown : s.vm.findClass "RowCodeLaw" = some m.cls) (hts : ∀ w ∈ mx_tb, w.before args s = true) (htab : c.exceptionTable.toList = [⟨0, 9, 12, 13⟩]) (hls : ls.size = 4)
    (hd : decode cc 4 = .ok (.invokevirtual ix, 3)) (hH : H = s.heap) (hPre : tPre D cI cZ g z sz q idx tx i ([.ref z, .int i] : List Value).toArray s) (hrecv : ∃ cell : Cell, s.heap[z]? = some cell ∧ cell.vm.isStatics = false ∧ s.vm.findClass "RowCode" = some cell.cls) (hcells : cells + 1 ≤ R.cells) (hslots : slots + 6 ≤ R.slots)
    (kk : ∀ H1 : Heap, H1.size = s.heap.size + 1 → (∀ q : Nat, q < s.heap.size → H1[q]? = s.heap[q]?) → W p l e R s m args below meth c H1 [] (cells + 1) (slots + 6) Q (F0 m 12 ls [.ref s.heap.size])) : W p l e R s m args below meth c H [] cells slots Q (F0 m 4 ls [.int i, .ref z, .int 0, .ref w]) := by
  intro T hT X
  have hTs : T.heap = s.heap := hT.trans hH
  obtain ⟨cellB, hcB, hoB, hclB⟩ := hrecv
  have hy : jT.1.cls ≠ "java/lang/invoke/MethodHandle" ∧ jT.1.cls ≠ "java/lang/invoke/VarHandle" := by rw [hy1]; decide
  obtain ⟨mk, methM, hnamed, hmethM, hstM, habM⟩ := Cond.instanceMethod_spec (hts _ him)
  obtain ⟨methM', cM, hmethM', -, -, -, -, -, -, hsigM⟩ := Cond.code_spec hnamed (hts _ hcw)
  obtain rfl : methM = methM' := Option.some.inj (hmethM.symm.trans hmethM')
  have hdecl : (Cond.declares jT.1).before args s = true := by
    simp [Cond.before, Cond.holds, Cond.value, hnamed, hmethM, hstM, hsigM]
  have hnf : NotFace s jT.1 := by
    intro r0 hr0
    obtain rfl : mk = r0 := Option.some.inj (hnamed.symm.trans hr0)
    obtain ⟨c2, r2, m2, q1, q2, q3, q4, kP, hkP, hkPi⟩ := Cond.selects_spec (hts _ hse)
    obtain rfl : m2 = mk := Option.some.inj (q3.symm.trans hnamed)
    exact ⟨kP, hkP, hkPi⟩
  have hgood : GoodIn mx_tb (mx_ws jT) := by
    intro w hw
    rcases List.mem_cons.mp hw with rfl | hw
    · exact ⟨hcw, (mx_tb_good _ hcw).2⟩
    · exact ⟨hw, (mx_tb_good w hw).2⟩
  obtain ⟨v, vm1, B, hW1, X', hpost, hst⟩ := X.virtualThrows hx (own := "RowCodeLaw") (C := "RowCode") (index := ix) (y := jT.1) (z := jT.1) hown (hts _ hli) hdecl hnf (hts _ hse) (hts _ him) hy (back_t hM hfr hlo hini) hclB ⟨cellB, by rw [hTs]; exact hcB, rfl, hoB⟩ (g := F0 m 4 ls [.int i, .ref z, .int 0, .ref w]) rfl (by rw [hml]; exact hls) (Steps.refl _) (argsL := [.int i]) (rest := [.int 0, .ref w]) (fun sig h => by rw [h] at hlenP; exact (Option.some.inj hlenP).symm) rfl (Nat.le_of_ble_eq_true rfl) (by rw [hb]; exact hd) (fun vm1 hW1 => ⟨tPre.warm (U := T.setVm vm1) hW1 hTs hPre rfl, hcells, hslots, fun w hw => pay_in hts hgood w hw _ (T.setVm vm1) hW1⟩)
  obtain ⟨rfl, z1, k1, ⟨ce, hce, hcls, hvm⟩, l1, c1, s1⟩ := hpost
  obtain ⟨U, L, cl, sl⟩ := B
  dsimp only [Pt.U, Pt.locs, Pt.cells, Pt.slots] at *
  subst l1 c1 s1
  have hfn : s.vm.findClass nseN = some ce.cls := by rw [← hW1.alike.findClass]; exact hcls
  obtain ⟨c3, c4, hc3, hc4, hasg⟩ := Cond.castable_spec (OA_all (args := args) hPre.2.2.2.2.2.1 hPre.2.2.2.2.2.2.1 hPre.2.2.2.2.2.2.2.1 (.castable nseN nseN) (by decide +kernel))
  obtain rfl : c3 = ce.cls := Option.some.inj (hc3.symm.trans hfn)
  obtain rfl : c4 = ce.cls := Option.some.inj (hc4.symm.trans hfn)
  obtain ⟨vm2, XV, stV⟩ := X'.caughtLink T.heap.size (g := F0 m 4 ls [.int 0, .ref w]) rfl (own := "RowCodeLaw") (name := nseN) hown [] ⟨0, 9, 12, 13⟩ [] htab (fun y hy => absurd hy List.not_mem_nil) rfl (by decide) (hts _ hcl) hfn hce (by rw [hvm]; rfl) hasg
  obtain ⟨t, a1, b1⟩ := kk U.heap (by rw [z1]; show T.heap.size + 1 = _; rw [hTs]) (fun q hq => (k1 q (by show q < T.heap.size; rw [hTs]; exact hq)).trans (by show T.heap[q]? = _; rw [hTs])) (U.setVm vm2) rfl XV
  refine ⟨t, ?_, b1⟩
  rw [X'.pushThrowing_eq] at hst
  refine hst.trans (stV t ?_)
  have e9 : (F0 m 12 ls [.ref s.heap.size]) = { F0 m 4 ls [.int 0, .ref w] with pc := 12, stack := [.ref T.heap.size] } := by rw [hTs]
  rw [e9] at a1
  exact a1
