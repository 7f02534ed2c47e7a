/-! THE LAW'S OWN local AND word (written by wip/gen99k.py) -/
set_option maxRecDepth 100000 in
theorem tx_776 : Cond.code ⟨"RowCode", "local", "(I)I"⟩ prog_1_method_9_code 2 (some .int) ∈ mx_tb := mx_tb_in (List.mem_of_getElem? (i := 776) rfl) (by decide +kernel)
theorem tx_774 : Cond.instanceMethod ⟨"RowCode", "local", "(I)I"⟩ ∈ mx_tb := mx_tb_in (List.mem_of_getElem? (i := 774) (by decide +kernel)) (by decide +kernel)
theorem tx_775 : Cond.selects "RowCode" ⟨"RowCode", "local", "(I)I"⟩ ⟨"RowCode", "local", "(I)I"⟩ ∈ mx_tb := mx_tb_in (List.mem_of_getElem? (i := 775) (by decide +kernel)) (by decide +kernel)
set_option maxRecDepth 100000 in
theorem tx_850 : Cond.code ⟨"RowCode", "word", "(I)I"⟩ prog_1_method_11_code 2 (some .int) ∈ mx_tb := mx_tb_in (List.mem_of_getElem? (i := 850) rfl) (by decide +kernel)
theorem tx_848 : Cond.instanceMethod ⟨"RowCode", "word", "(I)I"⟩ ∈ mx_tb := mx_tb_in (List.mem_of_getElem? (i := 848) (by decide +kernel)) (by decide +kernel)
theorem tx_849 : Cond.selects "RowCode" ⟨"RowCode", "word", "(I)I"⟩ ⟨"RowCode", "word", "(I)I"⟩ ∈ mx_tb := mx_tb_in (List.mem_of_getElem? (i := 849) (by decide +kernel)) (by decide +kernel)
theorem tx_773 : Cond.methodLink "RowCodeLaw" 7 ⟨"RowCode", "local", "(I)I"⟩ ∈ mx_tb := mx_tb_in (List.mem_of_getElem? (i := 773) (by decide +kernel)) (by decide +kernel)
theorem tx_847 : Cond.methodLink "RowCodeLaw" 15 ⟨"RowCode", "word", "(I)I"⟩ ∈ mx_tb := mx_tb_in (List.mem_of_getElem? (i := 847) (by decide +kernel)) (by decide +kernel)
theorem tx_772 : Cond.classLink "RowCodeLaw" 13 "java/util/NoSuchElementException" ∈ mx_tb := mx_tb_in (List.mem_of_getElem? (i := 772) (by decide +kernel)) (by decide +kernel)
theorem cv_146 : mx_calV i_146 1 := ⟨⟨tx_776, tw_66, ⟨by decide +kernel, by decide +kernel⟩, by decide +kernel⟩, tx_774, tx_775⟩
theorem cv_147 : mx_calV i_147 1 := ⟨⟨tx_850, tw_66, ⟨by decide +kernel, by decide +kernel⟩, by decide +kernel⟩, tx_848, tx_849⟩
def i_148 : mx_I := (⟨"RowCodeLaw", "local", "(LRowCode;I[J)I"⟩, method_3_code, 4, (some .int), 7, 130)
def i_149 : mx_I := (⟨"RowCodeLaw", "word", "(LRowCode;I[J)I"⟩, method_4_code, 4, (some .int), 7, 130)
def ww (j : mx_I) : List Cond := Cond.codeWith j.1 j.2.1 j.2.2.1 j.2.2.2.1 [(0, 9, 12, 13)] :: mx_tb
abbrev AA (h : mx_H) (w : Nat) : Nat → Prop := fun q => mx_A h q ∨ q = w
def aPre (D : va_G) (cI cZ cJ : ClassId) (g : mx_G) (z w : Nat) (x0 : Int64) (i : Int32) (h : mx_H) : Array Value → State → Prop := fun args U =>
  args = ([.ref z, .int i, .ref w] : List Value).toArray ∧ mx_R D cI cZ (fun _ => True) g h U.heap ∧ va_K D mx_cl (mx_tys cI cZ) U ∧ (∀ w ∈ mx_nst, va_Nw w U) ∧ mx_Z (AA h w) g U U.heap ∧ U.heap[w]? = some (arrV cJ 1 (fun _ => .long x0)) ∧ ArrOfT U cJ .long
def aPost (D : va_G) (cI cZ cJ : ClassId) (g : mx_G) (w : Nat) (v : Int64) (h hf : mx_H) : Array Value → State → Outcome → State → Prop := fun _ s o t =>
  o = .returned (some (.int 0)) ∧ mx_R D cI cZ (AA h w) g hf t.heap ∧ t.heap[w]? = some (arrV cJ 1 (fun _ => .long v)) ∧ va_F (AA h w) s t
theorem aPre.blind {D : va_G} {cI cZ cJ : ClassId} {g : mx_G} {z w : Nat} {x0 : Int64} {i : Int32} {h : mx_H} : FrameBlind (aPre D cI cZ cJ g z w x0 i h) := by
  intro a U gf mk q
  obtain ⟨h0, h1, h2, h3, h4, h5, h6⟩ := q
  exact ⟨h0, h1, va_K.moved (u := U) (U := U.calling gf mk a) (Vm.Alike.refl U.vm) h2, mx_nst_same (u := U) (U := U.calling gf mk a) rfl h3, mx_Z.move (s := U) (U := U.calling gf mk a) (Vm.Alike.refl U.vm) h4, h5, arrOfT_moved (u := U) (E := U.calling gf mk a) (Vm.Alike.refl U.vm) h6⟩
def bPre (D : va_G) (cI cZ : ClassId) (g : mx_G) (z w sz q idx : Nat) (tx : String) (i : Int32) : Array Value → State → Prop := fun args U =>
  args = ([.ref z, .int i, .ref w] : List Value).toArray ∧ tPre D cI cZ g z sz q idx tx i ([.ref z, .int i] : List Value).toArray U ∧ ∃ cell : Cell, U.heap[z]? = some cell ∧ cell.vm.isStatics = false ∧ U.vm.findClass "RowCode" = some cell.cls
def bPost : Array Value → State → Outcome → State → Prop := fun _ s o t => o = .returned (some (.int 1)) ∧ t.heap.size = s.heap.size + 1 ∧ ∀ q : Nat, q < s.heap.size → t.heap[q]? = s.heap[q]?
theorem bPre.blind {D : va_G} {cI cZ : ClassId} {g : mx_G} {z w sz q idx : Nat} {tx : String} {i : Int32} : FrameBlind (bPre D cI cZ g z w sz q idx tx i) := by
  intro a U gf mk p
  obtain ⟨h0, ⟨g0, g1, g2, g3, g4, g5, g6, g7, g8⟩, h2⟩ := p
  exact ⟨h0, ⟨g0, g1, va_K.moved (u := U) (U := U.calling gf mk a) (Vm.Alike.refl U.vm) g2, mx_nst_same (u := U) (U := U.calling gf mk a) rfl g3, mx_Z.move (s := U) (U := U.calling gf mk a) (Vm.Alike.refl U.vm) g4, oaT.same (u := U) (U := U.calling gf mk a) rfl g5, tZ.moved (u := U) (U := U.calling gf mk a) (Vm.Alike.refl U.vm) g6, tZ.moved (u := U) (U := U.calling gf mk a) (Vm.Alike.refl U.vm) g7, vk_R.same (u := U) (U := U.calling gf mk a) rfl g8⟩, h2⟩
theorem arr1 {cJ : ClassId} {f f' : Nat → Value} (h : f 0 = f' 0) : arrV cJ 1 f = arrV cJ 1 f' := by
  have e : (fun j : Fin 1 => f j.val) = (fun j : Fin 1 => f' j.val) := by
    funext j
    have : j.val = 0 := by omega
    rw [this]; exact h
  unfold arrV
  rw [e]
set_option maxHeartbeats 2000000 in
theorem a_148 {l : Launch} {D : va_G} {cI cZ cJ : ClassId} {g : mx_G} {z w : Nat} {NK : List Nat} {c0 : Nat × Nat} {h : mx_H} {S : xS} {x0 : Int64} {i : Int32} {c : List II} {va fu : Int32} {lo wo : Nat → Int32} (hI : xI z NK c0 g h S) (hL : lawR z S c va fu lo wo) (hh : m_hasL i = true) (hw : w < h.1) (hw2 : mx_get h w = none) :
    ∃ hf : mx_H, xI z NK c0 g hf S ∧ (∀ q, q < h.1 → mx_get h q = none → mx_get hf q = none) ∧ h.1 ≤ hf.1 ∧ h.2.1 ≤ hf.2.1 ∧ Met l i_148.1 (ww i_148) { frames := 7, cells := hf.1 - h.1, slots := hf.2.1 - h.2.1, locals := 130 } (aPre D cI cZ cJ g z w x0 i h) (aPost D cI cZ cJ g w (mLa lo i).toInt64 h hf) (hf.1 - h.1) (hf.2.1 - h.2.1) (AA h w) := by
  obtain ⟨n, hf, ex, i2, dm⟩ := go_146 hI hL hh
  obtain ⟨m1, m2, -⟩ := mx_exec_mono m2_mono _ _ _ _ _ _ _ ex
  have g0 : ∃ fs, mx_get h z = some (.inr (9, fs)) := by
    obtain ⟨pj, ds, cm, wt, jd, b, pl, us, fs, ga, ns, as, t, gg, m, ld, hO, -⟩ := hL
    exact ⟨_, hI.obj (k := 0) hO.1⟩
  obtain ⟨fs0, g0⟩ := g0
  refine ⟨hf, i2, dm, m1, m2, ?_⟩
  refine va_MetW (cc := method_3_code) (maxL := 4) (ret := some .int) (hh := [(0, 9, 12, 13)]) (by decide) rfl ?_
  intro p e s m args below meth cc s₁ B hml hv
  obtain ⟨rfl, hR0, hK, hN, hZz, hc, hJ⟩ := hv
  have hx := B.exec
  have hb := B.bytes
  have hr := B.returns
  have hts0 := atoms_spec (ws := ww i_148) B.pre
  have hts : ∀ w' ∈ mx_tb, w'.before ([.ref z, .int i, .ref w] : List Value).toArray s = true := fun w' hw' => hts0 w' (List.mem_cons_of_mem _ hw')
  have hown : s.vm.findClass "RowCodeLaw" = some m.cls := findClass_of_methodNamed B.named
  have hlocks := B.notSynchronized
  have hin : meth.name = "local" := (name_of_methodNamed B.named B.method).1
  have hsz : s.heap.size = h.1 := hR0.1
  have hgen : h.2.2.2 = g := hR0.2.1
  have X : mx_X i_148.1.cls i_148.1.name i_148.2.1 i_148.2.2.1 i_148.2.2.2.1 p (headSpec (ww i_148) { frames := 7, cells := hf.1 - h.1, slots := hf.2.1 - h.2.1, locals := 130 }).room s m ([.ref z, .int i, .ref w] : List Value).toArray meth cc D cI cZ (AA h w) g := ⟨hx, hb, hml, hr, hown, hts, hlocks, hin, hK, hN, hZz, fun q hq => .inl (.inr (by rw [← hsz]; exact hq))⟩
  have hl := lv_entry ([.ref z, .int i, .ref w] : List Value) (n := 4) (Nat.le_of_ble_eq_true rfl)
  have hM := met_146 l D cI cZ n [.ref z, .int i] h (some (.int (mLa lo i))) hf ex (Nat.le_of_ble_eq_true rfl)
  have K : ∀ ls, lv_has ls 4 [(0, .ref z), (1, .int i), (2, .ref w)] → W p l e (headSpec (ww i_148) { frames := 7, cells := hf.1 - h.1, slots := hf.2.1 - h.2.1, locals := 130 }).room s m ([.ref z, .int i, .ref w] : List Value).toArray below meth cc s.heap [] 0 0 (MQ below (aPost D cI cZ cJ g w (mLa lo i).toInt64 h hf) ([.ref z, .int i, .ref w] : List Value).toArray s (hf.1 - h.1) (hf.2.1 - h.2.1) (AA h w)) (F0 m 0 ls []) := by
    clear hl
    intro ls hl
    refine lv_aload_n (k := 2) hx hb (by decide +kernel) rfl (mx_lget_at hl rfl) ?_
    refine lv_iconst (n := 0) (v := 0) hx hb (by decide +kernel) (by decide) ?_
    refine lv_aload_n (k := 0) hx hb (by decide +kernel) rfl (mx_lget_at hl rfl) ?_
    refine lv_iload_n (k := 1) hx hb (by decide +kernel) rfl (mx_lget_at hl rfl) ?_
    refine mx_do_callF (i := i_148) (j := i_146) (cl := (146, 2, some (some 9), 2)) (lv := [(0, .ref z), (1, .int i), (2, .ref w)]) X (Nat.le_refl _) (Nat.le_refl _) (mk_callV (by decide) (by decide) cv_146 (Or.inl tx_773) rfl (by decide +kernel)) (mx_cok_of rfl (by simp [mx_rcv, g0])) hM (hR0.self.weak (fun q hq => .inl hq)) va_S.rf hl (by show 0 + (hf.1 - h.1) ≤ hf.1 - h.1; omega) (by show 0 + (hf.2.1 - h.2.1) ≤ hf.2.1 - h.2.1; omega) (fun H1 locs1 hR1 hS1 hk1 _ => ?_)
    rw [Nat.zero_add, Nat.zero_add]
    show W p l e _ s m _ below meth cc H1 locs1 _ _ _ (F0 m 7 ls [.int (mLa lo i), .int 0, .ref w])
    refine lv_i2l hx hb (by decide +kernel) rfl ?_
    have hc1 : H1[w]? = some (arrV cJ 1 (fun _ => .long x0)) := (hk1 w (by rw [hsz]; exact hw) (fun q => q.elim (fun q => by rw [hw2] at q; cases q) (fun q => by omega))).trans hc
    refine W.last (g := F0 m 8 ls [.long (mLa lo i).toInt64, .int 0, .ref w]) hx hb hc1 (hJ 1 (fun _ => .long x0)) (fun q => by cases q) (by rw [arrV_size]; decide) rfl rfl (show decode method_3_code 8 = .ok (.lastore, 1) by decide +kernel) (fun H2 e2 z2 o2 => ?_)
    show W p l e _ s m _ below meth cc H2 (locs1 ++ [⟨w, (0 : Int32).toNatClampNeg⟩]) _ _ _ (F0 m 9 ls [])
    refine lv_goto (off := 6) (tgt := 15) hx hb (by decide +kernel) (by decide) ?_
    refine lv_iconst (n := 0) (v := 0) hx hb (by decide +kernel) (by decide) ?_
    have hS2 : va_S (AA h w) s.heap H2 (locs1 ++ [⟨w, (0 : Int32).toNatClampNeg⟩]) := by
      refine ⟨by rw [z2]; exact hS1.1, fun q q1 q2 => ?_, fun q hq => ?_⟩
      · rw [o2 q (fun e => q2 (.inr e))]; exact hS1.2.1 q q1 q2
      · rcases List.mem_append.mp hq with q1 | q1
        · exact hS1.2.2 q q1
        · rw [List.mem_singleton.mp q1]; exact .inr rfl
    refine W.iret hx hb hr (fun t ht hW => ⟨rfl, ?_, ?_, hS2.F ht⟩) hS2.2.2 (by decide +kernel)
    · rw [ht]
      refine ⟨by rw [z2]; exact hR1.1, hR1.2.1, fun a x hx => ⟨(hR1.2.2 a x hx).1.kept (o2 a (fun e => ?_)), (hR1.2.2 a x hx).2⟩⟩
      subst e
      rw [dm a hw hw2] at hx; cases hx
    · rw [ht, e2, arrV_store]
      exact congrArg some (arr1 rfl)
  rw [lg_entry_eq]
  exact K _ hl
set_option maxHeartbeats 2000000 in
theorem b_148 {l : Launch} (hfl : l.flags = pinnedFlags ++ [noTraceFlag]) (D : va_G) (cI cZ : ClassId) (g : mx_G) (z w sz q : Nat) (i : Int32) (hg : gOK g sz) (hno : m_hasL i = false) : Met l i_148.1 (ww i_148) { frames := 7, cells := 1, slots := 6, locals := 130 } (bPre D cI cZ g z w sz q 121 "no such local" i) bPost 1 6 (fun _ => False) := by
  refine va_MetW (cc := method_3_code) (maxL := 4) (ret := some .int) (hh := [(0, 9, 12, 13)]) (by decide) rfl ?_
  intro p e s m args below meth cc s₁ B hml hv
  obtain ⟨rfl, hP, hrec⟩ := hv
  have hx := B.exec
  have hb := B.bytes
  have hr := B.returns
  have hts0 := atoms_spec (ws := ww i_148) B.pre
  have hts : ∀ w' ∈ mx_tb, w'.before ([.ref z, .int i, .ref w] : List Value).toArray s = true := fun w' hw' => hts0 w' (List.mem_cons_of_mem _ hw')
  have hown : s.vm.findClass "RowCodeLaw" = some m.cls := findClass_of_methodNamed B.named
  have hlocks := B.notSynchronized
  have htab : cc.exceptionTable.toList = [⟨0, 9, 12, 13⟩] := by
    obtain ⟨m9, meth9, c9, n9, q1, q2, -, -, q5, -⟩ := Cond.codeWith_spec (hts0 _ List.mem_cons_self)
    obtain rfl : m9 = m := Option.some.inj (n9.symm.trans B.named)
    obtain rfl : meth9 = meth := Option.some.inj (q1.symm.trans B.method)
    obtain rfl : c9 = cc := Option.some.inj (q2.symm.trans (Stand.of_body B).code)
    have := table_eq c9.exceptionTable.toList
    rw [q5] at this
    exact this.symm
  have hl := lv_entry ([.ref z, .int i, .ref w] : List Value) (n := 4) (Nat.le_of_ble_eq_true rfl)
  have K : ∀ ls, lv_has ls 4 [(0, .ref z), (1, .int i), (2, .ref w)] → W p l e (headSpec (ww i_148) { frames := 7, cells := 1, slots := 6, locals := 130 }).room s m ([.ref z, .int i, .ref w] : List Value).toArray below meth cc s.heap [] 0 0 (MQ below bPost ([.ref z, .int i, .ref w] : List Value).toArray s 1 6 (fun _ => False)) (F0 m 0 ls []) := by
    clear hl
    intro ls hl
    refine lv_aload_n (k := 2) hx hb (by decide +kernel) rfl (mx_lget_at hl rfl) ?_
    refine lv_iconst (n := 0) (v := 0) hx hb (by decide +kernel) (by decide) ?_
    refine lv_aload_n (k := 0) hx hb (by decide +kernel) rfl (mx_lget_at hl rfl) ?_
    refine lv_iload_n (k := 1) hx hb (by decide +kernel) rfl (mx_lget_at hl rfl) ?_
    refine W_threw (ix := 7) (t_146 hfl D cI cZ g z sz q i hg hno) (by decide) (by decide) rfl tx_776 tw_66 tx_774 tx_775 tx_773 tx_772 (by decide +kernel) hx hb hml hown hts htab hl.1 (by decide +kernel) rfl hP hrec (by decide) (by decide) (fun H1 z1 k1 => ?_)
    refine lv_astore_n (k := 3) (lv' := [(3, .ref s.heap.size), (0, .ref z), (1, .int i), (2, .ref w)]) hx hb (by decide +kernel) rfl hl (by decide) rfl (fun ls hl => ?_)
    refine lv_iconst (n := 1) (v := 1) hx hb (by decide +kernel) (by decide) ?_
    exact W.iret hx hb hr (fun t ht hW => ⟨rfl, by rw [ht]; exact z1, fun q hq => by rw [ht]; exact k1 q hq⟩) (fun q hq => absurd hq List.not_mem_nil) (by decide +kernel)
  rw [lg_entry_eq]
  exact K _ hl
set_option maxHeartbeats 2000000 in
theorem a_149 {l : Launch} {D : va_G} {cI cZ cJ : ClassId} {g : mx_G} {z w : Nat} {NK : List Nat} {c0 : Nat × Nat} {h : mx_H} {S : xS} {x0 : Int64} {i : Int32} {c : List II} {va fu : Int32} {lo wo : Nat → Int32} (hI : xI z NK c0 g h S) (hL : lawR z S c va fu lo wo) (hh : m_hasW i.toInt64 = true) (hw : w < h.1) (hw2 : mx_get h w = none) :
    ∃ hf : mx_H, xI z NK c0 g hf S ∧ (∀ q, q < h.1 → mx_get h q = none → mx_get hf q = none) ∧ h.1 ≤ hf.1 ∧ h.2.1 ≤ hf.2.1 ∧ Met l i_149.1 (ww i_149) { frames := 7, cells := hf.1 - h.1, slots := hf.2.1 - h.2.1, locals := 130 } (aPre D cI cZ cJ g z w x0 i h) (aPost D cI cZ cJ g w (mVa wo i).toInt64 h hf) (hf.1 - h.1) (hf.2.1 - h.2.1) (AA h w) := by
  obtain ⟨n, hf, ex, i2, dm⟩ := go_147 hI hL hh
  obtain ⟨m1, m2, -⟩ := mx_exec_mono m2_mono _ _ _ _ _ _ _ ex
  have g0 : ∃ fs, mx_get h z = some (.inr (9, fs)) := by
    obtain ⟨pj, ds, cm, wt, jd, b, pl, us, fs, ga, ns, as, t, gg, m, ld, hO, -⟩ := hL
    exact ⟨_, hI.obj (k := 0) hO.1⟩
  obtain ⟨fs0, g0⟩ := g0
  refine ⟨hf, i2, dm, m1, m2, ?_⟩
  refine va_MetW (cc := method_4_code) (maxL := 4) (ret := some .int) (hh := [(0, 9, 12, 13)]) (by decide) rfl ?_
  intro p e s m args below meth cc s₁ B hml hv
  obtain ⟨rfl, hR0, hK, hN, hZz, hc, hJ⟩ := hv
  have hx := B.exec
  have hb := B.bytes
  have hr := B.returns
  have hts0 := atoms_spec (ws := ww i_149) B.pre
  have hts : ∀ w' ∈ mx_tb, w'.before ([.ref z, .int i, .ref w] : List Value).toArray s = true := fun w' hw' => hts0 w' (List.mem_cons_of_mem _ hw')
  have hown : s.vm.findClass "RowCodeLaw" = some m.cls := findClass_of_methodNamed B.named
  have hlocks := B.notSynchronized
  have hin : meth.name = "word" := (name_of_methodNamed B.named B.method).1
  have hsz : s.heap.size = h.1 := hR0.1
  have hgen : h.2.2.2 = g := hR0.2.1
  have X : mx_X i_149.1.cls i_149.1.name i_149.2.1 i_149.2.2.1 i_149.2.2.2.1 p (headSpec (ww i_149) { frames := 7, cells := hf.1 - h.1, slots := hf.2.1 - h.2.1, locals := 130 }).room s m ([.ref z, .int i, .ref w] : List Value).toArray meth cc D cI cZ (AA h w) g := ⟨hx, hb, hml, hr, hown, hts, hlocks, hin, hK, hN, hZz, fun q hq => .inl (.inr (by rw [← hsz]; exact hq))⟩
  have hl := lv_entry ([.ref z, .int i, .ref w] : List Value) (n := 4) (Nat.le_of_ble_eq_true rfl)
  have hM := met_147 l D cI cZ n [.ref z, .int i] h (some (.int (mVa wo i))) hf ex (Nat.le_of_ble_eq_true rfl)
  have K : ∀ ls, lv_has ls 4 [(0, .ref z), (1, .int i), (2, .ref w)] → W p l e (headSpec (ww i_149) { frames := 7, cells := hf.1 - h.1, slots := hf.2.1 - h.2.1, locals := 130 }).room s m ([.ref z, .int i, .ref w] : List Value).toArray below meth cc s.heap [] 0 0 (MQ below (aPost D cI cZ cJ g w (mVa wo i).toInt64 h hf) ([.ref z, .int i, .ref w] : List Value).toArray s (hf.1 - h.1) (hf.2.1 - h.2.1) (AA h w)) (F0 m 0 ls []) := by
    clear hl
    intro ls hl
    refine lv_aload_n (k := 2) hx hb (by decide +kernel) rfl (mx_lget_at hl rfl) ?_
    refine lv_iconst (n := 0) (v := 0) hx hb (by decide +kernel) (by decide) ?_
    refine lv_aload_n (k := 0) hx hb (by decide +kernel) rfl (mx_lget_at hl rfl) ?_
    refine lv_iload_n (k := 1) hx hb (by decide +kernel) rfl (mx_lget_at hl rfl) ?_
    refine mx_do_callF (i := i_149) (j := i_147) (cl := (147, 2, some (some 9), 2)) (lv := [(0, .ref z), (1, .int i), (2, .ref w)]) X (Nat.le_refl _) (Nat.le_refl _) (mk_callV (by decide) (by decide) cv_147 (Or.inl tx_847) rfl (by decide +kernel)) (mx_cok_of rfl (by simp [mx_rcv, g0])) hM (hR0.self.weak (fun q hq => .inl hq)) va_S.rf hl (by show 0 + (hf.1 - h.1) ≤ hf.1 - h.1; omega) (by show 0 + (hf.2.1 - h.2.1) ≤ hf.2.1 - h.2.1; omega) (fun H1 locs1 hR1 hS1 hk1 _ => ?_)
    rw [Nat.zero_add, Nat.zero_add]
    show W p l e _ s m _ below meth cc H1 locs1 _ _ _ (F0 m 7 ls [.int (mVa wo i), .int 0, .ref w])
    refine lv_i2l hx hb (by decide +kernel) rfl ?_
    have hc1 : H1[w]? = some (arrV cJ 1 (fun _ => .long x0)) := (hk1 w (by rw [hsz]; exact hw) (fun q => q.elim (fun q => by rw [hw2] at q; cases q) (fun q => by omega))).trans hc
    refine W.last (g := F0 m 8 ls [.long (mVa wo i).toInt64, .int 0, .ref w]) hx hb hc1 (hJ 1 (fun _ => .long x0)) (fun q => by cases q) (by rw [arrV_size]; decide) rfl rfl (show decode method_4_code 8 = .ok (.lastore, 1) by decide +kernel) (fun H2 e2 z2 o2 => ?_)
    show W p l e _ s m _ below meth cc H2 (locs1 ++ [⟨w, (0 : Int32).toNatClampNeg⟩]) _ _ _ (F0 m 9 ls [])
    refine lv_goto (off := 6) (tgt := 15) hx hb (by decide +kernel) (by decide) ?_
    refine lv_iconst (n := 0) (v := 0) hx hb (by decide +kernel) (by decide) ?_
    have hS2 : va_S (AA h w) s.heap H2 (locs1 ++ [⟨w, (0 : Int32).toNatClampNeg⟩]) := by
      refine ⟨by rw [z2]; exact hS1.1, fun q q1 q2 => ?_, fun q hq => ?_⟩
      · rw [o2 q (fun e => q2 (.inr e))]; exact hS1.2.1 q q1 q2
      · rcases List.mem_append.mp hq with q1 | q1
        · exact hS1.2.2 q q1
        · rw [List.mem_singleton.mp q1]; exact .inr rfl
    refine W.iret hx hb hr (fun t ht hW => ⟨rfl, ?_, ?_, hS2.F ht⟩) hS2.2.2 (by decide +kernel)
    · rw [ht]
      refine ⟨by rw [z2]; exact hR1.1, hR1.2.1, fun a x hx => ⟨(hR1.2.2 a x hx).1.kept (o2 a (fun e => ?_)), (hR1.2.2 a x hx).2⟩⟩
      subst e
      rw [dm a hw hw2] at hx; cases hx
    · rw [ht, e2, arrV_store]
      exact congrArg some (arr1 rfl)
  rw [lg_entry_eq]
  exact K _ hl
set_option maxHeartbeats 2000000 in
theorem b_149 {l : Launch} (hfl : l.flags = pinnedFlags ++ [noTraceFlag]) (D : va_G) (cI cZ : ClassId) (g : mx_G) (z w sz q : Nat) (i : Int32) (hg : gOK g sz) (hno : m_hasW i.toInt64 = false) : Met l i_149.1 (ww i_149) { frames := 7, cells := 1, slots := 6, locals := 130 } (bPre D cI cZ g z w sz q 136 "no such word" i) bPost 1 6 (fun _ => False) := by
  refine va_MetW (cc := method_4_code) (maxL := 4) (ret := some .int) (hh := [(0, 9, 12, 13)]) (by decide) rfl ?_
  intro p e s m args below meth cc s₁ B hml hv
  obtain ⟨rfl, hP, hrec⟩ := hv
  have hx := B.exec
  have hb := B.bytes
  have hr := B.returns
  have hts0 := atoms_spec (ws := ww i_149) B.pre
  have hts : ∀ w' ∈ mx_tb, w'.before ([.ref z, .int i, .ref w] : List Value).toArray s = true := fun w' hw' => hts0 w' (List.mem_cons_of_mem _ hw')
  have hown : s.vm.findClass "RowCodeLaw" = some m.cls := findClass_of_methodNamed B.named
  have hlocks := B.notSynchronized
  have htab : cc.exceptionTable.toList = [⟨0, 9, 12, 13⟩] := by
    obtain ⟨m9, meth9, c9, n9, q1, q2, -, -, q5, -⟩ := Cond.codeWith_spec (hts0 _ List.mem_cons_self)
    obtain rfl : m9 = m := Option.some.inj (n9.symm.trans B.named)
    obtain rfl : meth9 = meth := Option.some.inj (q1.symm.trans B.method)
    obtain rfl : c9 = cc := Option.some.inj (q2.symm.trans (Stand.of_body B).code)
    have := table_eq c9.exceptionTable.toList
    rw [q5] at this
    exact this.symm
  have hl := lv_entry ([.ref z, .int i, .ref w] : List Value) (n := 4) (Nat.le_of_ble_eq_true rfl)
  have K : ∀ ls, lv_has ls 4 [(0, .ref z), (1, .int i), (2, .ref w)] → W p l e (headSpec (ww i_149) { frames := 7, cells := 1, slots := 6, locals := 130 }).room s m ([.ref z, .int i, .ref w] : List Value).toArray below meth cc s.heap [] 0 0 (MQ below bPost ([.ref z, .int i, .ref w] : List Value).toArray s 1 6 (fun _ => False)) (F0 m 0 ls []) := by
    clear hl
    intro ls hl
    refine lv_aload_n (k := 2) hx hb (by decide +kernel) rfl (mx_lget_at hl rfl) ?_
    refine lv_iconst (n := 0) (v := 0) hx hb (by decide +kernel) (by decide) ?_
    refine lv_aload_n (k := 0) hx hb (by decide +kernel) rfl (mx_lget_at hl rfl) ?_
    refine lv_iload_n (k := 1) hx hb (by decide +kernel) rfl (mx_lget_at hl rfl) ?_
    refine W_threw (ix := 15) (t_147 hfl D cI cZ g z sz q i hg hno) (by decide) (by decide) rfl tx_850 tw_66 tx_848 tx_849 tx_847 tx_772 (by decide +kernel) hx hb hml hown hts htab hl.1 (by decide +kernel) rfl hP hrec (by decide) (by decide) (fun H1 z1 k1 => ?_)
    refine lv_astore_n (k := 3) (lv' := [(3, .ref s.heap.size), (0, .ref z), (1, .int i), (2, .ref w)]) hx hb (by decide +kernel) rfl hl (by decide) rfl (fun ls hl => ?_)
    refine lv_iconst (n := 1) (v := 1) hx hb (by decide +kernel) (by decide) ?_
    exact W.iret hx hb hr (fun t ht hW => ⟨rfl, by rw [ht]; exact z1, fun q hq => by rw [ht]; exact k1 q hq⟩) (fun q hq => absurd hq List.not_mem_nil) (by decide +kernel)
  rw [lg_entry_eq]
  exact K _ hl
