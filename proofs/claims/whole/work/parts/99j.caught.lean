/-! A CALL THAT THROWS, AND THE HANDLER THAT CATCHES IT -/
theorem sb_heap {s t : State} {k n : Nat} (h : s.sameButNew t [] k n) : ∀ q : Nat, q < s.heap.size → t.heap[q]? = s.heap[q]? := by
  intro q hq
  have hc := Array.getElem?_eq_getElem hq
  obtain ⟨c', h1, h2, h3, h4⟩ := h.2.2.2.2.2 q _ hc
  have e : c'.slots = (s.heap[q]).slots := Array.ext_getElem? (fun i => h4 i List.not_mem_nil)
  rw [h1, hc, h2, e]
theorem tPre.calling {D : va_G} {cI cZ : ClassId} {g : mx_G} {z sz q idx : Nat} {tx : String} {i : Int32} {a : Array Value} {U : State} (gf : JFrame) (mk : MethodId) (h : tPre D cI cZ g z sz q idx tx i a U) : tPre D cI cZ g z sz q idx tx i a (U.calling gf mk a) := by
  obtain ⟨h0, h1, h2, h3, h4, h5, h6, h7, h8⟩ := h
  exact ⟨h0, h1, va_K.moved (u := U) (U := U.calling gf mk a) (Vm.Alike.refl U.vm) h2, mx_nst_same (u := U) (U := U.calling gf mk a) rfl h3, mx_Z.move (s := U) (U := U.calling gf mk a) (Vm.Alike.refl U.vm) h4, oaT.same (u := U) (U := U.calling gf mk a) rfl h5, tZ.moved (u := U) (U := U.calling gf mk a) (Vm.Alike.refl U.vm) h6, tZ.moved (u := U) (U := U.calling gf mk a) (Vm.Alike.refl U.vm) h7, vk_R.same (u := U) (U := U.calling gf mk a) rfl h8⟩
theorem tPre.warm {D : va_G} {cI cZ : ClassId} {g : mx_G} {z sz q idx : Nat} {tx : String} {i : Int32} {a a' : Array Value} {s U : State} (hW : s.WarmedH U.vm) (hz : U.heap = s.heap) (h : tPre D cI cZ g z sz q idx tx i a s) (ha : a' = ([.ref z, .int i] : List Value).toArray) : tPre D cI cZ g z sz q idx tx i a' U := by
  obtain ⟨-, h1, h2, h3, h4, h5, h6, h7, h8⟩ := h
  refine ⟨ha, by rw [hz]; exact h1, va_K.moved hW.alike h2, mx_nst_warm hW h3, ?_, oaT.warm hW h5, ?_, ?_, vk_R.warm hW h8⟩
  · rw [hz]; exact mx_Z.move hW.alike h4
  · rw [hz]; exact tZ.moved hW.alike h6
  · rw [hz]; exact tZ.moved hW.alike h7
/-- the callee's own end, in the caller's place: the exception on top of the caller's frame -/
theorem th_call {p : Program} {l : Launch} {e : Env} {R : Room} {s : State} {m : MethodId} {args : Array Value} {below : List Frame} {meth : Method} {c : Code} {U : State} {cells slots : Nat} {jT : mx_I} {mk : MethodId} {a : Array Value} {D : va_G} {cI cZ : ClassId} {g : mx_G} {z sz q idx : Nat} {tx : String} {i : Int32}
    (X : Stand p l e R s m args below meth c U [] cells slots) (hM : MetFree l jT.1 (headSpec (mx_ws jT) rmT) (tPre D cI cZ g z sz q idx tx i) (fun _ _ _ _ _ => True) tPost) (hfr : 7 ≤ R.frames) (hlo : 8 + (jT.2.2.1 + 11) + 100 ≤ R.locals) (hini : Cond.initialized jT.1.cls ∈ mx_tb) (hn : U.methodNamed? jT.1 = some mk)
    {gf : JFrame} (hgm : gf.method = m) (hgs : gf.locals.size = c.maxLocals) {ig : Instr} (hgd : decode c.code gf.pc = .ok (ig, 3)) (hgw : 2 * gf.monitorRoom + (gf.stack.map fun v => v.category).sum ≤ 8) (hP : tPre D cI cZ g z sz q idx tx i a U) (hk1 : cells + 1 ≤ R.cells) (hk2 : slots + 6 ≤ R.slots) (hw : ∀ w ∈ mx_ws jT, w.before a U = true) :
    ∃ V : State, Stand p l e R s m args below meth c V [] (cells + 1) (slots + 6) ∧ V.heap.size = U.heap.size + 1 ∧ (∀ q : Nat, q < U.heap.size → V.heap[q]? = U.heap[q]?) ∧ (∃ ce : Cell, V.heap[U.heap.size]? = some ce ∧ U.vm.findClass nseN = some ce.cls ∧ ce.vm = .none) ∧ Steps p.tables e below (doInvoke e (U.setTop gf) [] mk a).1 ((V.setTop gf).pushFrame (.throwing U.heap.size)) := by
  obtain ⟨my, cy, hmy, hcy, -, hly, -⟩ := Cond.code_spec hn (hw (Cond.code jT.1 jT.2.1 jT.2.2.1 jT.2.2.2.1) List.mem_cons_self)
  obtain ⟨ky, hky, -⟩ := className_of_methodNamed hn
  have hiy := Cond.initialized_spec (findClass_of_methodNamed hn) hky (hw _ (List.mem_cons_of_mem _ hini))
  have hat : At U gf.method c below := by rw [hgm]; exact X.here
  have hroom : (U.calling gf mk a).hasRoom e.platform (headSpec (mx_ws jT) rmT).room = true :=
    X.room_calling (g := gf) hgs hmy hcy hfr (Nat.le_trans (Nat.add_le_add_right (Nat.add_le_add_right hgw _) _) (by rw [hly]; exact hlo)) hk1 hk2
  have happ : (headSpec (mx_ws jT) rmT).appliesLoose jT.1 e.platform (U.calling gf mk a) = true :=
    Spec.appliesLoose_calling hat hgd hn hky hiy hroom (atoms_intro fun w h => hw w h)
  have hff : (U.setTop gf).frames = .java gf :: below := by rw [State.frames_setTop' gf hat.top, X.tail]
  obtain ⟨o, t, st, -, hen, hq⟩ := Steps.callFree hM p X.admits X.cas X.clock (acts := []) (mid := [.java gf]) (below := below) hff happ (hP.calling gf mk) trivial
  obtain ⟨ho, hW, hsame, ce, hce, hcl, hvm⟩ := (show tPost a (U.calling gf mk a) o t from hq)
  rw [hff, ho] at hen
  obtain ⟨V, XV, -, hVs, ht⟩ := X.outOfThrown (mk := mk) (a := a) hgm hen hW hsame
  have ht' : t = (V.setTop gf).pushFrame (.throwing U.heap.size) := ht
  have hh : t.heap = V.heap := by rw [ht']; rfl
  have hce' : V.heap[U.heap.size]? = some ce := by rw [← hh]; exact hce
  have b1 : U.heap.size < V.heap.size := (Array.getElem?_eq_some_iff.mp hce').1
  have b2 : V.heap.size ≤ U.heap.size + 1 := hVs.2.2.1
  exact ⟨V, XV, by omega, fun q hq => sb_heap hVs q hq, ⟨ce, hce', hcl, hvm⟩, ht' ▸ st⟩
/-- the search of the handler: one entry, whose class may still be cold -/
theorem th_find {e : Env} {Y : State} {f : JFrame} {a : Addr} {mt : Method} {cd : Code} {ce : Cell} {k : Class}
    (h1 : Y.vm.method? f.method = some mt) (h2 : mt.code = some cd) (h3 : cd.exceptionTable.toList = [⟨0, 9, 12, 13⟩]) (h4 : f.pc = 4) (h5 : Y.vm.ClassLinks e.platform f.method.cls 13 ce.cls) (h6 : Y.heap[a]? = some ce) (h7 : ce.vm = .none) (h9 : (Y.vm.noted f.method.cls 13 (.cls ce.cls)).classes[ce.cls]? = some k) (h10 : (Y.vm.noted f.method.cls 13 (.cls ce.cls)).assignable ce.cls ce.cls = true)
    (Q : Handler → Pre) (E : CtlPost) (d : Bool) (acts : List Action) : wp (findHandler f a) Q E e d acts Y ↔ Q (.found 12) d acts (Y.setVm (Y.vm.noted f.method.cls 13 (.cls ce.cls))) := by
  obtain ⟨ha, ht⟩ := (resolveClass_links e.toSetting h5).op (op := VmOp.resolveClass f.method.cls 13) rfl
  rw [W.findHandler_eq h1 h2, h3]
  simp [findHandler.go, h4, ha, ht, h6, h7, h9, h10, VmOp.dirties, VmOp.acts]
theorem th_step {e : Env} {Y : State} {f : JFrame} {a : Addr} {pc : Nat} {vN : Vm} (r : List Frame) (hf : ∀ (Q : Handler → Pre) (E : CtlPost) (d : Bool) (acts : List Action), wp (findHandler f a) Q E e d acts Y ↔ Q (.found pc) d acts (Y.setVm vN)) :
    (stepThrowing e Y a (.java f :: r)).1 = (Y.setVm vN).setFrames (.java { f with pc := pc, stack := [.ref a] } :: r) := by
  simp only [stepThrowing, searchFrame, vmDo]
  generalize hr : Sem.go _ e false [] Y = res
  obtain ⟨as, rfl, -⟩ := Sem.eq_ok_of hr (a := Handler.found pc) (s' := Y.setVm vN) (acts' := []) (by simp [hf])
  rfl
theorem th_frames (u : State) (v : Vm) (F G K : List Frame) : (((u.setFrames F).setFrames G).setVm v).setFrames K = (u.setVm v).setFrames K := by
  have h1 : ((u.setFrames F).setFrames G).setVm v = ((u.setVm v).setFrames F).setFrames G := rfl
  rw [h1, State.setFrames_setFrames, State.setFrames_setFrames]
/-- the handler catches it -/
theorem th_caught {p : Program} {l : Launch} {e : Env} {R : Room} {s : State} {m : MethodId} {args : Array Value} {below : List Frame} {meth : Method} {c : Code} {V : State} {cells slots : Nat} (X : Stand p l e R s m args below meth c V [] cells slots) (htab : c.exceptionTable.toList = [⟨0, 9, 12, 13⟩]) (hown : s.vm.findClass "RowCodeLaw" = some m.cls) (hlk : (Cond.classLink "RowCodeLaw" 13 nseN).before args s = true)
    {gf : JFrame} (hgm : gf.method = m) (hpc : gf.pc = 4) {a : Addr} {ce : Cell} (hce : V.heap[a]? = some ce) (hvm : ce.vm = .none) (hcls : s.vm.findClass nseN = some ce.cls) (hasg : s.vm.assignable ce.cls ce.cls = true) :
    ∃ vm', Stand p l e R s m args below meth c (V.setVm vm') [] cells slots ∧ ∀ target, Steps p.tables e below ((V.setVm vm').setTop { gf with pc := 12, stack := [.ref a] }) target → Steps p.tables e below ((V.setTop gf).pushFrame (.throwing a)) target := by
  subst hgm
  obtain ⟨cT, hcT, hl⟩ := Cond.classLink_spec hown hlk e.platform (by rw [X.admits.platform])
  have hcc : cT = ce.cls := Option.some.inj (hcT.symm.trans hcls)
  rw [hcc] at hl
  obtain ⟨dk, _, _, kt, hd, _, _, _, _, hkt, _, hopen⟩ := hl.here
  have hWn : s.WarmedH (V.vm.noted gf.method.cls 13 (.cls ce.cls)) := X.warmed.noted hd hopen (State.rightAt_cls hl)
  obtain ⟨k2, hk2, -⟩ := hWn.alike.2.2 _ _ hkt
  refine ⟨_, X.noted hWn, fun target hgo => ?_⟩
  obtain ⟨q1, q2⟩ := X.here.throwing a
  obtain ⟨g₀, hr⟩ := X.frames_eq
  have hr' : (V.setVm (V.vm.noted gf.method.cls 13 (.cls ce.cls))).frames = .java g₀ :: below := hr
  have hs := th_step (e := e) (Y := (V.setTop gf).pushFrame (.throwing a)) (f := gf) (a := a) (pc := 12) (vN := V.vm.noted gf.method.cls 13 (.cls ce.cls)) V.frames.tail
    (th_find (mt := meth) (cd := c) X.method' X.code htab hpc (X.warmed.classLinks hl) hce hvm hk2 (by rw [show (((V.setTop gf).pushFrame (.throwing a)).vm.noted gf.method.cls 13 (.cls ce.cls)) = V.vm.noted gf.method.cls 13 (.cls ce.cls) from rfl, hWn.alike.assignable]; exact hasg))
  refine Steps.head q1 q2 ?_
  rw [stepThread_throwing (frames_entered X.here.top _), hs, hr, State.setTop_of_frames _ hr, State.pushFrame, th_frames]
  rw [State.setTop_of_frames _ hr'] at hgo
  exact hgo
set_option maxHeartbeats 1000000 in
theorem W_threw {p : Program} {l : Launch} {e : Env} {R : Room} {s : State} {m : MethodId} {args : Array Value} {below : List Frame} {meth : Method} {c : Code} {H : Heap} {cells slots : Nat} {Q : State → Prop} {ls : Array Slot} {jT : mx_I} {D : va_G} {cI cZ : ClassId} {g : mx_G} {z sz q idx ix w : Nat} {tx : String} {i : Int32} {cc : ByteArray}
    (hM : MetFree l jT.1 (headSpec (mx_ws jT) rmT) (tPre D cI cZ g z sz q idx tx i) (fun _ _ _ _ _ => True) tPost) (hfr : 7 ≤ R.frames) (hlo : 8 + (jT.2.2.1 + 11) + 100 ≤ R.locals) (hy1 : jT.1.cls = "RowCode") (hcw : Cond.code jT.1 jT.2.1 jT.2.2.1 jT.2.2.2.1 ∈ mx_tb) (hini : Cond.initialized jT.1.cls ∈ mx_tb) (him : Cond.instanceMethod jT.1 ∈ mx_tb) (hse : Cond.selects "RowCode" jT.1 jT.1 ∈ mx_tb) (hli : Cond.methodLink "RowCodeLaw" ix jT.1 ∈ mx_tb) (hcl : Cond.classLink "RowCodeLaw" 13 nseN ∈ mx_tb) (hlenP : (parseMethodDescriptor jT.1.desc).map (fun d => d.parameters.length) = some 1)
    (hx : p.tables.exec = Jvm.exec) (hb : c.code = cc) (hml : c.maxLocals = 4) (hown : s.vm.findClass "RowCodeLaw" = some m.cls) (hts : ∀ w ∈ mx_tb, w.before args s = true) (htab : c.exceptionTable.toList = [⟨0, 9, 12, 13⟩]) (hls : ls.size = 4)
    (hd : decode cc 4 = .ok (.invokevirtual ix, 3)) (hH : H = s.heap) (hPre : tPre D cI cZ g z sz q idx tx i ([.ref z, .int i] : List Value).toArray s) (hrecv : ∃ cell : Cell, s.heap[z]? = some cell ∧ cell.vm.isStatics = false ∧ s.vm.findClass "RowCode" = some cell.cls) (hcells : cells + 1 ≤ R.cells) (hslots : slots + 6 ≤ R.slots)
    (kk : ∀ H1 : Heap, H1.size = s.heap.size + 1 → (∀ q : Nat, q < s.heap.size → H1[q]? = s.heap[q]?) → W p l e R s m args below meth c H1 [] (cells + 1) (slots + 6) Q (F0 m 12 ls [.ref s.heap.size])) : W p l e R s m args below meth c H [] cells slots Q (F0 m 4 ls [.int i, .ref z, .int 0, .ref w]) := by
  intro T hT X
  have hTs : T.heap = s.heap := hT.trans hH
  obtain ⟨cellB, hcB, hoB, hclB⟩ := hrecv
  have hy : jT.1.cls ≠ "java/lang/invoke/MethodHandle" ∧ jT.1.cls ≠ "java/lang/invoke/VarHandle" := by rw [hy1]; decide
  obtain ⟨mk, methM, hnamed, hmethM, hstM, habM⟩ := Cond.instanceMethod_spec (hts _ him)
  obtain ⟨methM', cM, hmethM', -, -, -, -, -, -, hsigM⟩ := Cond.code_spec hnamed (hts _ hcw)
  obtain rfl : methM = methM' := Option.some.inj (hmethM.symm.trans hmethM')
  obtain ⟨c2, r2, m2, q1, q2, q3, q4, kP, hkP, hkPi⟩ := Cond.selects_spec (hts _ hse)
  have e1 : m2 = mk := Option.some.inj (q3.symm.trans hnamed)
  have e2 : c2 = cellB.cls := Option.some.inj (q1.symm.trans hclB)
  have e3 : r2 = mk := Option.some.inj (q2.symm.trans (State.methodFound?_of_named hnamed hy))
  rw [e1] at hkP
  have hsel : selectMethod e.platform s.vm cellB.cls mk = .method mk := by
    rw [Launch.admits_selectMethod X.admits]
    rw [e1, e2, e3] at q4
    exact q4
  have hgood : GoodIn mx_tb (mx_ws jT) := by
    intro w hw
    rcases List.mem_cons.mp hw with rfl | hw
    · exact ⟨hcw, (mx_tb_good _ hcw).2⟩
    · exact ⟨hw, (mx_tb_good w hw).2⟩
  obtain ⟨vm1, X1, st1⟩ := X.invokevirtual hx hown (hts _ hli) hnamed hmethM hstM hkP hkPi hy (a := z) (cell := cellB) (by rw [hTs]; exact hcB) (fun k h => by rw [h] at hoB; cases hoB) hsel hmethM habM hkP hkPi (g := F0 m 4 ls [.int i, .ref z, .int 0, .ref w]) rfl (argsL := [.int i]) (rest := [.int 0, .ref w]) (by rw [hsigM] at hlenP; exact (Option.some.inj hlenP).symm) rfl (by rw [hb]; exact hd)
  obtain ⟨V, XV, z1, k1, ⟨ce, hce, hcls, hvm⟩, st2⟩ := th_call X1 hM hfr hlo hini (X1.named hnamed) (gf := F0 m 4 ls [.int 0, .ref w]) rfl (by rw [hml]; exact hls) (ig := .invokevirtual ix) (by rw [hb]; exact hd) (Nat.le_of_ble_eq_true rfl) (tPre.warm (U := T.setVm vm1) (a' := ([.ref z, .int i] : List Value).toArray) X1.warmed hTs hPre rfl) hcells hslots (fun w hw => pay_in hts hgood w hw _ (T.setVm vm1) X1.warmed)
  have hfn : s.vm.findClass nseN = some ce.cls := by rw [← X1.warmed.alike.findClass]; exact hcls
  obtain ⟨c3, c4, hc3, hc4, hasg⟩ := Cond.castable_spec (OA_all (args := args) hPre.2.2.2.2.2.1 hPre.2.2.2.2.2.2.1 hPre.2.2.2.2.2.2.2.1 (.castable nseN nseN) (by decide +kernel))
  obtain rfl : c3 = ce.cls := Option.some.inj (hc3.symm.trans hfn)
  obtain rfl : c4 = ce.cls := Option.some.inj (hc4.symm.trans hfn)
  obtain ⟨vm2, XC, stV⟩ := th_caught XV htab hown (hts _ hcl) (gf := F0 m 4 ls [.int 0, .ref w]) rfl rfl hce hvm hfn hasg
  obtain ⟨t, a1, b1⟩ := kk V.heap (by rw [z1]; show T.heap.size + 1 = _; rw [hTs]) (fun q hq => (k1 q (by show q < T.heap.size; rw [hTs]; exact hq)).trans (by show T.heap[q]? = _; rw [hTs])) (V.setVm vm2) rfl XC
  have e9 : (F0 m 12 ls [.ref s.heap.size]) = { F0 m 4 ls [.int 0, .ref w] with pc := 12, stack := [.ref T.heap.size] } := by rw [hTs]
  rw [e9] at a1
  exact ⟨t, st1 t (fun acts => by rw [doInvoke_state]; exact st2.trans (stV t a1)), b1⟩
