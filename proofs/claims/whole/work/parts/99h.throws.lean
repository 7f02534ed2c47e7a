/-! RowCode.local and RowCode.word, where they throw (written by wip/gen99h.py) -/
def i_146 : mx_I := (⟨"RowCode", "local", "(I)I"⟩, prog_1_method_9_code, 2, (some .int), 6, 100)
def i_147 : mx_I := (⟨"RowCode", "word", "(I)I"⟩, prog_1_method_11_code, 2, (some .int), 6, 100)
abbrev rmT : Room := { frames := 6, cells := 1, slots := 6, locals := 100 }
def tPre (D : va_G) (cI cZ : ClassId) (g : mx_G) (z sz q idx : Nat) (tx : String) (i : Int32) : Array Value → State → Prop := fun args U =>
  args = ([.ref z, .int i] : List Value).toArray ∧ sz ≤ U.heap.size ∧ va_K D mx_cl (mx_tys cI cZ) U ∧ (∀ w ∈ mx_nst, va_Nw w U) ∧ mx_Z (fun q => U.heap.size ≤ q) g U U.heap ∧ oaT U ∧ tZ "UNASSIGNED_STACK" dSTE (fun q => U.heap.size ≤ q) U U.heap ∧ tZ "SUPPRESSED_SENTINEL" dLST (fun q => U.heap.size ≤ q) U U.heap ∧ vk_R "RowCode" idx tx q U
def tPost : Array Value → State → Outcome → State → Prop := fun _ s o t =>
  o = .threw s.heap.size ∧ s.WarmedH t.vm ∧ s.sameButNew ({ t with vm := s.vm } : State) [] 1 6 ∧ ∃ ce : Cell, t.heap[s.heap.size]? = some ce ∧ s.vm.findClass nseN = some ce.cls ∧ ce.vm = .none
theorem gOK.up {g : mx_G} {a b : Nat} (h : gOK g a) (hab : a ≤ b) : gOK g b := fun k hk => ⟨Nat.lt_of_lt_of_le (h k hk).1 hab, (h k hk).2⟩
theorem xI_empty {g : mx_G} {n sl : Nat} (hg : gOK g n) : xI 0 [] (n, sl) g (hZ n sl g) (fun _ => none) :=
  ⟨⟨by decide, fun k hk => absurd hk List.not_mem_nil, fun j hj => by cases hj⟩, fun _ => 0, fun _ => 0, fun _ _ => 0, rfl, rfl, ⟨rfl, fun k hk => ⟨(hg k hk).1, rfl, (hg k hk).2⟩⟩, fun k x hk => (by cases hk), fun k x hk => (by cases hk), fun k k' x x' hk => (by cases hk), fun q hq => rfl⟩
theorem xI_nil {z : Nat} {c : Nat × Nat} {g : mx_G} {h : mx_H} {S : xS} (hI : xI z [] c g h S) : h.1 = c.1 ∧ h.2.1 = c.2 := by
  obtain ⟨-, e, ar, f, h1, h2, -⟩ := hI
  exact ⟨h1, h2⟩
theorem heap_same {H H1 : Heap} (hs : H1.size = H.size) (h : ∀ q : Nat, q < H.size → H1[q]? = H[q]?) : H1 = H := by
  refine Array.ext_getElem? (fun q => ?_)
  rcases Nat.lt_or_ge q H.size with w | w
  · exact h q w
  · rw [Array.getElem?_eq_none (by omega), Array.getElem?_eq_none w]
theorem w_cl119 : Cond.classLink "RowCode" 119 nseN ∈ mx_tb := mx_tb_in (by decide +kernel) (by decide +kernel)
theorem w_in6 : Cond.instantiable nseN 6 ∈ mx_tb := mx_tb_in (by decide +kernel) (by decide +kernel)
theorem w_ini : Cond.initialized nseN ∈ mx_tb := mx_tb_in (by decide +kernel) (by decide +kernel)
theorem w_l115 : Cond.methodLink "RowCode" 115 i_18.1 ∈ mx_tb := mx_tb_in (by decide +kernel) (by decide +kernel)
set_option maxHeartbeats 2000000 in
theorem t_146 {l : Launch} (hfl : l.flags = pinnedFlags ++ [noTraceFlag]) (D : va_G) (cI cZ : ClassId) (g : mx_G) (z sz q : Nat) (i : Int32) (hg : gOK g sz) (hno : m_hasL i = false) : MetFree l i_146.1 (headSpec (mx_ws i_146) rmT) (tPre D cI cZ g z sz q 121 "no such local" i) (fun _ _ _ _ _ => True) tPost := by
  refine MetFree.of_bodyS (code := prog_1_method_9_code) (maxLocals := 2) (ret := some .int) (by decide) ?_ ?_
  · intro args s m h hn
    obtain ⟨meth, c, h1, h2, h3, h4, h5, h6, -, -⟩ := Cond.code_spec hn (atoms_spec (ws := mx_ws i_146) h _ List.mem_cons_self)
    exact ⟨meth, c, h1, h2, h3, h4, h5, h6⟩
  · intro p e s m args below meth c s₁ B hml hP _
    obtain ⟨rfl, hsz, hK, hN, hZz, hO, hz1, hz2, hS0⟩ := hP
    have hx := B.exec
    have hb := B.bytes
    have hts0 := atoms_spec (ws := mx_ws i_146) B.pre
    have hts : ∀ w ∈ mx_tb, w.before ([.ref z, .int i] : List Value).toArray s = true := fun w hw => hts0 w (List.mem_cons_of_mem _ hw)
    have hcode := hts0 _ List.mem_cons_self
    have hown : s.vm.findClass "RowCode" = some m.cls := findClass_of_methodNamed B.named
    have hlocks := B.notSynchronized
    have hin : meth.name = "local" := (name_of_methodNamed B.named B.method).1
    have X : mx_X i_146.1.cls i_146.1.name i_146.2.1 i_146.2.2.1 i_146.2.2.2.1 p (headSpec (mx_ws i_146) rmT).room s m ([.ref z, .int i] : List Value).toArray meth c D cI cZ (fun q => s.heap.size ≤ q) g := ⟨hx, hb, hml, B.returns, hown, hts, hlocks, hin, hK, hN, hZz, fun q h => h⟩
    have hh0 : s₁.heap = s.heap := by rw [B.state]; rfl
    have hnil : c.exceptionTable.toList = [] := by
      have he := BodyLoose.noHandlers B hcode
      have h0 : c.exceptionTable.size = 0 := by simpa [Array.isEmpty] using he
      exact List.eq_nil_of_length_eq_zero (by simpa using h0)
    have hl := lv_entry ([.ref z, .int i] : List Value) (n := 2) (Nat.le_of_ble_eq_true rfl)
    have K : ∀ ls, lv_has ls 2 [(0, .ref z), (1, .int i)] → W p l e (headSpec (mx_ws i_146) rmT).room s m ([.ref z, .int i] : List Value).toArray below meth c s.heap [] 0 0 (fun t => ∃ o, t.status = .running ∧ Ended t below o ∧ tPost ([.ref z, .int i] : List Value).toArray s o t) (F0 m 0 ls []) := by
      clear hl
      intro ls hl
      refine lv_iload_n (k := 1) hx hb (by decide +kernel) rfl (mx_lget_at hl rfl) ?_
      refine mx_callX (i := i_146) (j := i_18) (cl := (18, 1, none, 1)) (z := 0) (NK := []) (c0 := (s.heap.size, 0)) (S := fun _ => none) (h := hZ s.heap.size 0 g) (lv := [(0, .ref z), (1, .int i)]) (K1 := s.heap.size) (K2 := 0) (P := fun v _ => v = some (.int (bI (m_hasL i)))) X (Nat.le_refl _) (by decide) rfl (mk_callS (by decide) (by decide) cs_18 (Or.inl w_l115) (by decide +kernel)) rfl rfl rfl (c_hasLocal rfl) (xI_empty (hg.up hsz)) (fun v h' S' _ hI' => ⟨Nat.le_of_eq (xI_nil hI').1, Nat.le_of_eq (xI_nil hI').2⟩) ⟨rfl, rfl, fun a c h => by cases h⟩ va_S.rf hl (by show 0 + (s.heap.size - s.heap.size) ≤ 1; omega) (Nat.le_of_ble_eq_true rfl) (fun v h' S' H1 locs1 hv hI' hR1 hS1 hk1 _ _ _ => ?_)
      subst hv
      obtain ⟨n1, n2⟩ := xI_nil hI'
      obtain rfl : H1 = s.heap := heap_same (by rw [hR1.1]; exact n1) (fun q hq => hk1 q hq rfl)
      have e1 : 0 + (h'.1 - (hZ s.heap.size 0 g).1) = 0 := by rw [n1]; show 0 + (s.heap.size - s.heap.size) = 0; omega
      have e2 : 0 + (h'.2.1 - (hZ s.heap.size 0 g).2.1) = 0 := by rw [n2]; rfl
      rw [e1, e2]
      refine va_forget (fun q hq => hS1.2.2 q hq) ?_
      show W p l e _ s m _ below meth c s.heap [] 0 0 _ (F0 m 4 ls [.int (bI (m_hasL i))])
      rw [hno]
      refine lv_if_ne (off := 13) (tgt := 17) hx hb (by decide +kernel) (by decide) (fun w => absurd rfl w) (fun _ => ?_)
      obtain ⟨cX, k1, hfX, -⟩ := Cond.instantiable_spec (hts _ w_in6)
      refine W.newcK (g := F0 m 7 ls []) hx hb hown (hts _ w_cl119) (hts _ w_in6) (hts _ w_ini) rfl (show decode prog_1_method_9_code 7 = .ok (.new 119, 3) by decide +kernel) (by decide) (by decide) hfX rfl (fun H' kC hkC e1 z1 o1 => ?_)
      show W p l e _ s m _ below meth c H' [] 1 6 _ (F0 m 10 ls [.ref s.heap.size])
      refine lv_dup hx hb (by decide +kernel) rfl ?_
      refine va_ldcS hx hb hown hS0 (by decide +kernel) ?_
      show W p l e _ s m _ below meth c H' [] 1 6 _ (F0 m 13 ls [.ref q, .ref s.heap.size, .ref s.heap.size])
      intro T hT XT
      obtain ⟨U, st, hrun, hend, hW, hsame, ce, hce, hcls, hvm⟩ := nse_out XT hx (Launch.traces_off hfl XT.admits) hown (OA_all hO hz1 hz2) (fun x hx => absurd hx List.not_mem_nil) hfX hkC (by rw [hT]; exact e1) (Nat.le_refl _) (msg := .ref q) rfl (g := F0 m 13 ls [.ref q, .ref s.heap.size, .ref s.heap.size]) rfl (by rw [hml]; exact hl.1) rfl rfl rfl (by rw [hb]; exact (show decode prog_1_method_9_code 13 = .ok (.invokespecial 123, 3) by decide +kernel)) (by rw [hb]; exact (show decode prog_1_method_9_code (13 + 3) = .ok (.athrow, 1) by decide +kernel)) (fun x hx => by rw [hnil] at hx; cases hx) (by decide) (Nat.le_of_ble_eq_true rfl) hlocks
      exact ⟨U, st, .threw s.heap.size, hrun, hend, rfl, hW, hsame, ce, hce, by rw [hcls]; exact hfX, hvm⟩
    obtain ⟨t, a1, o, b1, b2, b3⟩ := (show W p l e (headSpec (mx_ws i_146) rmT).room s m ([.ref z, .int i] : List Value).toArray below meth c s.heap [] 0 0 (fun t => ∃ o, t.status = .running ∧ Ended t below o ∧ tPost ([.ref z, .int i] : List Value).toArray s o t) (entryFrame m ([.ref z, .int i] : List Value).toArray 2) from by rw [lg_entry_eq]; exact K _ hl) s₁ hh0 (Stand.of_body B)
    exact ⟨t, o, a1, b1, b2, b3⟩
theorem w_l132 : Cond.methodLink "RowCode" 132 i_19.1 ∈ mx_tb := mx_tb_in (by decide +kernel) (by decide +kernel)
set_option maxHeartbeats 2000000 in
theorem t_147 {l : Launch} (hfl : l.flags = pinnedFlags ++ [noTraceFlag]) (D : va_G) (cI cZ : ClassId) (g : mx_G) (z sz q : Nat) (i : Int32) (hg : gOK g sz) (hno : m_hasW i.toInt64 = false) : MetFree l i_147.1 (headSpec (mx_ws i_147) rmT) (tPre D cI cZ g z sz q 136 "no such word" i) (fun _ _ _ _ _ => True) tPost := by
  refine MetFree.of_bodyS (code := prog_1_method_11_code) (maxLocals := 2) (ret := some .int) (by decide) ?_ ?_
  · intro args s m h hn
    obtain ⟨meth, c, h1, h2, h3, h4, h5, h6, -, -⟩ := Cond.code_spec hn (atoms_spec (ws := mx_ws i_147) h _ List.mem_cons_self)
    exact ⟨meth, c, h1, h2, h3, h4, h5, h6⟩
  · intro p e s m args below meth c s₁ B hml hP _
    obtain ⟨rfl, hsz, hK, hN, hZz, hO, hz1, hz2, hS0⟩ := hP
    have hx := B.exec
    have hb := B.bytes
    have hts0 := atoms_spec (ws := mx_ws i_147) B.pre
    have hts : ∀ w ∈ mx_tb, w.before ([.ref z, .int i] : List Value).toArray s = true := fun w hw => hts0 w (List.mem_cons_of_mem _ hw)
    have hcode := hts0 _ List.mem_cons_self
    have hown : s.vm.findClass "RowCode" = some m.cls := findClass_of_methodNamed B.named
    have hlocks := B.notSynchronized
    have hin : meth.name = "word" := (name_of_methodNamed B.named B.method).1
    have X : mx_X i_147.1.cls i_147.1.name i_147.2.1 i_147.2.2.1 i_147.2.2.2.1 p (headSpec (mx_ws i_147) rmT).room s m ([.ref z, .int i] : List Value).toArray meth c D cI cZ (fun q => s.heap.size ≤ q) g := ⟨hx, hb, hml, B.returns, hown, hts, hlocks, hin, hK, hN, hZz, fun q h => h⟩
    have hh0 : s₁.heap = s.heap := by rw [B.state]; rfl
    have hnil : c.exceptionTable.toList = [] := by
      have he := BodyLoose.noHandlers B hcode
      have h0 : c.exceptionTable.size = 0 := by simpa [Array.isEmpty] using he
      exact List.eq_nil_of_length_eq_zero (by simpa using h0)
    have hl := lv_entry ([.ref z, .int i] : List Value) (n := 2) (Nat.le_of_ble_eq_true rfl)
    have K : ∀ ls, lv_has ls 2 [(0, .ref z), (1, .int i)] → W p l e (headSpec (mx_ws i_147) rmT).room s m ([.ref z, .int i] : List Value).toArray below meth c s.heap [] 0 0 (fun t => ∃ o, t.status = .running ∧ Ended t below o ∧ tPost ([.ref z, .int i] : List Value).toArray s o t) (F0 m 0 ls []) := by
      clear hl
      intro ls hl
      refine lv_iload_n (k := 1) hx hb (by decide +kernel) rfl (mx_lget_at hl rfl) ?_
      refine lv_i2l hx hb (by decide +kernel) rfl ?_
      refine mx_callX (i := i_147) (j := i_19) (cl := (19, 1, none, 2)) (z := 0) (NK := []) (c0 := (s.heap.size, 0)) (S := fun _ => none) (h := hZ s.heap.size 0 g) (lv := [(0, .ref z), (1, .int i)]) (K1 := s.heap.size) (K2 := 0) (P := fun v _ => v = some (.int (bI (m_hasW i.toInt64)))) X (Nat.le_refl _) (by decide) rfl (mk_callS (by decide) (by decide) cs_19 (Or.inl w_l132) (by decide +kernel)) rfl rfl rfl (c_hasWord rfl) (xI_empty (hg.up hsz)) (fun v h' S' _ hI' => ⟨Nat.le_of_eq (xI_nil hI').1, Nat.le_of_eq (xI_nil hI').2⟩) ⟨rfl, rfl, fun a c h => by cases h⟩ va_S.rf hl (by show 0 + (s.heap.size - s.heap.size) ≤ 1; omega) (Nat.le_of_ble_eq_true rfl) (fun v h' S' H1 locs1 hv hI' hR1 hS1 hk1 _ _ _ => ?_)
      subst hv
      obtain ⟨n1, n2⟩ := xI_nil hI'
      obtain rfl : H1 = s.heap := heap_same (by rw [hR1.1]; exact n1) (fun q hq => hk1 q hq rfl)
      have e1 : 0 + (h'.1 - (hZ s.heap.size 0 g).1) = 0 := by rw [n1]; show 0 + (s.heap.size - s.heap.size) = 0; omega
      have e2 : 0 + (h'.2.1 - (hZ s.heap.size 0 g).2.1) = 0 := by rw [n2]; rfl
      rw [e1, e2]
      refine va_forget (fun q hq => hS1.2.2 q hq) ?_
      show W p l e _ s m _ below meth c s.heap [] 0 0 _ (F0 m 5 ls [.int (bI (m_hasW i.toInt64))])
      rw [hno]
      refine lv_if_ne (off := 13) (tgt := 18) hx hb (by decide +kernel) (by decide) (fun w => absurd rfl w) (fun _ => ?_)
      obtain ⟨cX, k1, hfX, -⟩ := Cond.instantiable_spec (hts _ w_in6)
      refine W.newcK (g := F0 m 8 ls []) hx hb hown (hts _ w_cl119) (hts _ w_in6) (hts _ w_ini) rfl (show decode prog_1_method_11_code 8 = .ok (.new 119, 3) by decide +kernel) (by decide) (by decide) hfX rfl (fun H' kC hkC e1 z1 o1 => ?_)
      show W p l e _ s m _ below meth c H' [] 1 6 _ (F0 m 11 ls [.ref s.heap.size])
      refine lv_dup hx hb (by decide +kernel) rfl ?_
      refine va_ldcS hx hb hown hS0 (by decide +kernel) ?_
      show W p l e _ s m _ below meth c H' [] 1 6 _ (F0 m 14 ls [.ref q, .ref s.heap.size, .ref s.heap.size])
      intro T hT XT
      obtain ⟨U, st, hrun, hend, hW, hsame, ce, hce, hcls, hvm⟩ := nse_out XT hx (Launch.traces_off hfl XT.admits) hown (OA_all hO hz1 hz2) (fun x hx => absurd hx List.not_mem_nil) hfX hkC (by rw [hT]; exact e1) (Nat.le_refl _) (msg := .ref q) rfl (g := F0 m 14 ls [.ref q, .ref s.heap.size, .ref s.heap.size]) rfl (by rw [hml]; exact hl.1) rfl rfl rfl (by rw [hb]; exact (show decode prog_1_method_11_code 14 = .ok (.invokespecial 123, 3) by decide +kernel)) (by rw [hb]; exact (show decode prog_1_method_11_code (14 + 3) = .ok (.athrow, 1) by decide +kernel)) (fun x hx => by rw [hnil] at hx; cases hx) (by decide) (Nat.le_of_ble_eq_true rfl) hlocks
      exact ⟨U, st, .threw s.heap.size, hrun, hend, rfl, hW, hsame, ce, hce, by rw [hcls]; exact hfX, hvm⟩
    obtain ⟨t, a1, o, b1, b2, b3⟩ := (show W p l e (headSpec (mx_ws i_147) rmT).room s m ([.ref z, .int i] : List Value).toArray below meth c s.heap [] 0 0 (fun t => ∃ o, t.status = .running ∧ Ended t below o ∧ tPost ([.ref z, .int i] : List Value).toArray s o t) (entryFrame m ([.ref z, .int i] : List Value).toArray 2) from by rw [lg_entry_eq]; exact K _ hl) s₁ hh0 (Stand.of_body B)
    exact ⟨t, o, a1, b1, b2, b3⟩
