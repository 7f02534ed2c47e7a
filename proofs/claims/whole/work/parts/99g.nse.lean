/-! THE THROW ITSELF: from the constructor's call to the end of the method, where no stack is recorded -/
theorem OA_thr : ∀ w ∈ Bundle.throwableAtoms, w ∈ OA := fun w hw => List.mem_append_left _ hw
theorem OA_thrS : ∀ w ∈ Bundle.throwableSAtoms, w ∈ OA := fun w hw => List.mem_append_right _ (List.mem_append_left _ hw)
theorem OA_pass : ∀ w ∈ Bundle.passSAtoms nseN nseR 13 prog_21_method_4_code, w ∈ OA := fun w hw => List.mem_append_right _ (List.mem_append_right _ (List.mem_append_left _ hw))
theorem OA_chain : ∀ w ∈ Bundle.chainSAtoms nseR ["java/lang/Exception"], w ∈ OA := fun w hw => List.mem_append_right _ (List.mem_append_right _ (List.mem_append_right _ (List.mem_append_left _ hw)))
set_option maxHeartbeats 2000000 in
theorem nse_out {p : Program} {l : Launch} {e : Env} {R : Room} {s : State} {m₀ : MethodId} {args : Array Value} {below : List Frame} {meth : Method} {c : Code} {W : State} {locs : List Loc} {cells slots : Nat}
    (X : Stand p l e R s m₀ args below meth c W locs cells slots) (hexec : p.tables.exec = Jvm.exec) (htr : e.platform.stackTraces = false) (hown : s.vm.findClass "RowCode" = some m₀.cls) (h : ∀ w ∈ OA, w.before args s = true) (hlocs : ∀ x ∈ locs, s.heap.size ≤ x.base)
    {a : Addr} {cX : ClassId} {kX : Class} (hfX : s.vm.findClass nseN = some cX) (hkX : s.vm.classes[cX]? = some kX) (hcell : W.heap[a]? = some (freshCell cX kX)) (hnew : s.heap.size ≤ a) {msg : Value} (hmsg : msg.isRef = true)
    {g : JFrame} (hg : g.method = m₀) (hsize : g.locals.size = c.maxLocals) (hlocked : g.locked = none) (hentered : g.entered = []) {rest : List Value} (hstack : g.stack = msg :: .ref a :: .ref a :: rest)
    (hd6 : decode c.code g.pc = .ok (.invokespecial 123, 3)) (hd9 : decode c.code (g.pc + 3) = .ok (.athrow, 1)) (hout : ∀ x ∈ c.exceptionTable.toList, covers x (g.pc + 3) = false)
    (hRf : 5 < R.frames) (hRl : 2 * g.monitorRoom + ((Value.ref a :: rest).map fun v => v.category).sum + 81 ≤ R.locals) (hlocks : meth.locks = false) :
    ∃ U : State, Steps p.tables e below (W.setTop g) U ∧ U.status = .running ∧ Ended U below (.threw a) ∧ s.WarmedH U.vm ∧ s.sameButNew ({ U with vm := s.vm } : State) locs cells slots ∧ ∃ ce, U.heap[a]? = some ce ∧ ce.cls = cX ∧ ce.vm = .none := by
  have hpl : e.platform.magicAccessors = ({} : Platform).magicAccessors := by rw [X.admits.platform]
  have hb : ∀ w, w ∈ OA → w.holds args s none s [] = true := fun w hw => h w hw
  -- Throwable, its constructor with a message, and the chain of constructors up to it
  obtain ⟨T, Z0, LT, -, Y⟩ := ThrowableC.of_atoms (args := args) (s := s) (pl := e.platform) (by rw [X.admits.platform]) (by rw [X.admits.platform]) hpl (fun w hw => h w (OA_thr w hw))
  obtain ⟨Z, M, LZ, LM, hnZ⟩ := Init0T.ofS_atoms (args := args) hpl LT Y (fun w hw => h w (OA_thrS w hw))
  obtain ⟨P1, L1, hP1m, hP1s⟩ := PassC.ofS_atoms (args := args) (s := s) (pl := e.platform) hpl (X := nseN) (Y := nseR) (index := 13) (bytes := prog_21_method_4_code) (by decide +kernel) (by decide) (by decide +kernel) (by decide +kernel) (by decide +kernel) (by decide +kernel) (fun w hw => h w (OA_pass w hw))
  obtain ⟨P2, Pr, hlen', L2, hL', hP2m, hl2, hp2⟩ := Bundle.chainS (args := args) hpl hnZ ["java/lang/Exception"] nseR (by decide +kernel) (by decide +kernel) (fun w hw => h w (OA_chain w hw))
  have hlen : (P2 :: Pr).length = 2 := by rw [List.length_cons, hlen']; rfl
  have hL : ∀ P, P ∈ P2 :: Pr → P.LinksS e.platform s := fun P hP => (List.mem_cons.mp hP).elim (fun w => w ▸ L2) (hL' P)
  have hlink1 : P1.sup = P2.m := Option.some.inj (hP1s.symm.trans hP2m)
  have hf1 : s.vm.findClass nseN = some P1.m.cls := findClass_of_methodNamed hP1m
  obtain rfl : cX = P1.m.cls := Option.some.inj (hfX.symm.trans hf1)
  obtain ⟨c1, k1, hc1, hk1, hord, -⟩ := Cond.instantiable_spec (hb (.instantiable nseN 6) (by decide +kernel))
  obtain rfl : c1 = P1.m.cls := Option.some.inj (hc1.symm.trans hf1)
  obtain rfl : k1 = kX := Option.some.inj (hk1.symm.trans hkX)
  have sel : ∀ (y : MethodName) (r : MethodId), Cond.selects nseN y y ∈ OA → s.methodNamed? y = some r → (y.cls ≠ "java/lang/invoke/MethodHandle" ∧ y.cls ≠ "java/lang/invoke/VarHandle") → selectMethod e.platform s.vm P1.m.cls r = .method r := by
    intro y r hin hn hy
    obtain ⟨c2, r2, m2, q1, q2, q3, q4, -⟩ := Cond.selects_spec (hb _ hin)
    obtain rfl : c2 = P1.m.cls := Option.some.inj (q1.symm.trans hf1)
    obtain rfl : r2 = r := Option.some.inj (q2.symm.trans (State.methodFound?_of_named hn hy))
    obtain rfl : m2 = r2 := Option.some.inj (q3.symm.trans hn)
    rw [Launch.admits_selectMethod X.admits]
    exact q4
  have s0 := sel Bundle.tFill0 T.fill0 (by decide +kernel) Y.fill0 (by decide)
  have sF := sel Bundle.tFill T.fill (by decide +kernel) Y.fill (by decide)
  -- the statics of Throwable
  obtain ⟨cs0, hcs0, hiss⟩ := Y.statics
  obtain ⟨u0, hu0⟩ := Cond.staticRefV Y.unassigned LT.unassignedStatic LT.statics hcs0 hiss (hb (.isRef (.static tN' "UNASSIGNED_STACK" dSTE)) (by decide +kernel))
  obtain ⟨sen, hsen⟩ := Cond.staticRefV Y.sentinel LT.sentinelStatic LT.statics hcs0 hiss (hb (.isRef (.static tN' "SUPPRESSED_SENTINEL" dLST)) (by decide +kernel))
  obtain ⟨cs, hcs, hcse, -, hkeep⟩ := X.same.2.2.2.2.2 T.aS cs0 hcs0
  have hlow : T.aS < s.heap.size := (Array.getElem?_eq_some_iff.mp hcs0).1
  have hfree : ∀ i, (⟨T.aS, i⟩ : Loc) ∉ locs := fun i hm => by exact absurd (hlocs _ hm) (Nat.not_le.mpr hlow)
  have hkn : cs.vm ≠ .unknown := by
    rw [hcse]
    intro hu
    rw [show cs0.vm = .unknown from hu] at hiss
    cases hiss
  -- the fields of the new object
  obtain ⟨iM, hfM⟩ := Y.msg
  obtain ⟨ci8, i8, fB, b1, b2, b3, b4, -, b6, b7, b8⟩ := Cond.ownField (t := .object "java/lang/Object") Y.found LT.cls (by decide +kernel) (hb (.fieldLink tN' 198 tN' "backtrace" "Ljava/lang/Object;") (by decide +kernel)) (hb (.lays tN' tN' "backtrace" "Ljava/lang/Object;") (by decide +kernel)) e.platform hpl
  obtain ⟨yC, dC, eC, fC⟩ := Cond.laysAt hf1 hkX Y.cause (hb (.lays nseN tN' "cause" "Ljava/lang/Throwable;") (by decide +kernel))
  obtain ⟨yS, dS, eS, fS⟩ := Cond.laysAt hf1 hkX Y.stack (hb (.lays nseN tN' "stackTrace" dSTE) (by decide +kernel))
  obtain ⟨yP, dP, eP, fP⟩ := Cond.laysAt hf1 hkX Y.supp (hb (.lays nseN tN' "suppressedExceptions" dLST) (by decide +kernel))
  obtain ⟨yM, dM, eM, fM⟩ := Cond.laysAt hf1 hkX hfM (hb (.lays nseN tN' "detailMessage" "Ljava/lang/String;") (by decide +kernel))
  obtain ⟨yB, dB, eB, fB2⟩ := Cond.laysAt hf1 hkX b8 (hb (.lays nseN tN' "backtrace" "Ljava/lang/Object;") (by decide +kernel))
  have aC := Cond.laysApart eB eC fB2 fC (by rw [b6, Y.causeName]; decide)
  have aS := Cond.laysApart eB eS fB2 fS (by rw [b6, Y.stackName]; decide)
  have aP := Cond.laysApart eB eP fB2 fP (by rw [b6, Y.suppName]; decide)
  have hskip : SkipFacts T e.platform s (fun u => u) u0 ((preparedCellV T.toThrowableT (freshCell P1.m.cls k1) a u0 sen).withEntry W.cur) := by
    refine ⟨{ ci198 := ci8, i198 := i8, fBack := fB }, ⟨b1, b2, b3, b4⟩, ?_, fun _ _ => rfl⟩
    have hd := fresh_default (c := P1.m.cls) yB
    rw [b7] at hd
    simpa [preparedCellV, Cell.setSlot, Cell.withEntry, Array.getElem?_setIfInBounds, aC, aS, aP, aC.symm, aS.symm, aP.symm, defaultValue] using hd
  -- the call, the constructors, the throw
  obtain ⟨tm, mC, cd, kC, vm1, hnC, -, -, -, -, -, -, -, hW1, st1⟩ := Steps.initColdS (tb := p.tables) (e := e) (below := below) (s := s) (U := W) X.here hexec X.warmed hpl hown (t := Bundle.initS nseN) rfl rfl (by decide) (hb (.methodLink "RowCode" 123 (Bundle.initS nseN)) (by decide +kernel)) (h (.instanceMethod (Bundle.initS nseN)) (by decide +kernel)) (bytes := prog_21_method_4_code) (maxL := 2) (h (.code (Bundle.initS nseN) prog_21_method_4_code 2 none) (by decide +kernel)) (f := g) hg (a := a) (msg := msg) (rest := .ref a :: rest) hstack hd6
  obtain rfl : tm = P1.m := Option.some.inj (hnC.symm.trans hP1m)
  obtain ⟨vm2, X2, st2⟩ := (X.noted hW1).ctorMessageOffV hexec (g := { g with stack := .ref a :: rest }) hg hsize T LT Z LZ M LM (P1 :: P2 :: Pr)
    (fun P hP => (List.mem_cons.mp hP).elim (fun w => w ▸ L1) (hL P)) ⟨hlink1, hl2, hp2⟩ (u0 := u0) (sen := sen) (self := a) hmsg (cell := freshCell P1.m.cls k1) (cellS := cs) hcell (fun _ => by simp) (by simp) rfl rfl s0 sF hcs (Nat.ne_of_lt (Nat.lt_of_lt_of_le hlow hnew)) hkn (by rw [hkeep _ (hfree _)]; exact hu0) (by rw [hkeep _ (hfree _)]; exact hsen)
    (Takes.of_laid hkX hord yC (by rw [Y.causeType]; rfl)) (Takes.of_laid hkX hord yS (by rw [Y.stackType]; exact fits_refV_array _ u0)) (Takes.of_laid hkX hord yP (by rw [Y.suppType]; exact fits_refV_object _ sen)) (Takes.of_laid hkX hord yM (by rw [Y.msgType]; exact fits_refV_object _ ⟨msg, hmsg⟩)) Y.objLocals hskip htr [] hd6
    (by rw [List.length_cons, hlen]; show 2 + 1 + 2 < R.frames; omega) (by rw [List.length_cons, hlen]; show _ + (13 * (2 + 1) + 42) ≤ R.locals; simp only at hRl ⊢; omega)
  obtain ⟨hwalk, hrun, hended, hWU, hsame⟩ := X2.athrowLeaves hexec (g := { g with stack := .ref a :: rest, pc := g.pc + 3 }) hg hlocked hentered hout (a := a) (rest := rest) rfl hd9 hlocks
  have hlt : a < ((W.setVm vm1).setVm vm2).heap.size := (Array.getElem?_eq_some_iff.mp hcell).1
  refine ⟨_, st1 _ (fun acts => by rw [doInvoke_state]; exact st2 _ hwalk), hrun, hended, hWU, hsame.weaken (fun y hy hl => ?_) (Nat.le_refl _) (Nat.le_refl _), _, heapAt_setCell_self (s := (W.setVm vm1).setVm vm2) (plainBareV T.toThrowableT (freshCell P1.m.cls k1) a u0 sen msg) hlt, rfl, rfl⟩
  rcases List.mem_append.mp hy with w | w
  · exact w
  · simp only [List.mem_cons, List.not_mem_nil, or_false] at w
    rcases w with rfl | rfl | rfl | rfl | rfl <;> exact absurd hl (Nat.not_lt.mpr hnew)
