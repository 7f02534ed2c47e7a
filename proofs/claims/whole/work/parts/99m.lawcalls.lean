/-! THE LAW'S CALLS OF ITS OWN local AND word (written by wip/gen99m.py) -/
theorem tx_65 : Cond.initialized "RowCodeLaw" ∈ mx_tb := mx_tb_in (List.mem_of_getElem? (i := 65) (by decide +kernel)) (by decide +kernel)
theorem tx_770 : Cond.static ⟨"RowCodeLaw", "local", "(LRowCode;I[J)I"⟩ ∈ mx_tb := mx_tb_in (List.mem_of_getElem? (i := 770) (by decide +kernel)) (by decide +kernel)
theorem tx_845 : Cond.static ⟨"RowCodeLaw", "word", "(LRowCode;I[J)I"⟩ ∈ mx_tb := mx_tb_in (List.mem_of_getElem? (i := 845) (by decide +kernel)) (by decide +kernel)
theorem tx_769 : Cond.methodLink "RowCodeLaw" 53 ⟨"RowCodeLaw", "local", "(LRowCode;I[J)I"⟩ ∈ mx_tb := mx_tb_in (List.mem_of_getElem? (i := 769) (by decide +kernel)) (by decide +kernel)
theorem tx_844 : Cond.methodLink "RowCodeLaw" 66 ⟨"RowCodeLaw", "word", "(LRowCode;I[J)I"⟩ ∈ mx_tb := mx_tb_in (List.mem_of_getElem? (i := 844) (by decide +kernel)) (by decide +kernel)
theorem w_cw148 : Cond.codeWith i_148.1 i_148.2.1 i_148.2.2.1 i_148.2.2.2.1 [(0, 9, 12, 13)] ∈ mx_tb := mx_tb_in (List.mem_of_getElem? (i := 771) (by decide +kernel)) (by decide +kernel)
theorem w_cw149 : Cond.codeWith i_149.1 i_149.2.1 i_149.2.2.1 i_149.2.2.2.1 [(0, 9, 12, 13)] ∈ mx_tb := mx_tb_in (List.mem_of_getElem? (i := 846) (by decide +kernel)) (by decide +kernel)
theorem va_runSW' {p : Program} {l : Launch} {e : Env} {R : Room} {s : State} {m : MethodId} {args : Array Value} {below : List Frame} {meth : Method} {c : Code} {H : Heap} {locs : List Loc} {cells slots : Nat} {y : MethodName} {bytes cc : ByteArray} {maxL nL mc ms n index : Nat} {ret' : Option FieldType} {hh : List (Nat × Nat × Nat × Nat)} {ws : List Cond} {rm : Room} {Pc : Array Value → State → Prop} {Qc : Array Value → State → Outcome → State → Prop} {free : Addr → Prop} {Ts : List Cond} {own : String} {As rest : List Value} {g : JFrame}
    (S : CallFix p m c cc nL s args Ts own) (hM : Met l y ws rm Pc Qc mc ms free) (hblind : FrameBlind Pc) (hrc : rm.cells = mc) (hrs : rm.slots = ms) (hfr : rm.frames + 1 ≤ R.frames) (hlo : 8 + (maxL + 11) + rm.locals ≤ R.locals) (hws : ∀ w ∈ ws, ∀ (a' : Array Value) (U : State), s.WarmedH U.vm → w.before a' U = true) (hcode : Cond.codeWith y bytes maxL ret' hh ∈ ws) (hini : (Cond.initialized y.cls).before args s = true) (hlink : (Cond.methodLink own index y).before args s = true) (hst : (Cond.static y).before args s = true) (hcw : (Cond.codeWith y bytes maxL ret' hh).before args s = true)
    (hy : y.cls ≠ "java/lang/invoke/MethodHandle" ∧ y.cls ≠ "java/lang/invoke/VarHandle") (hlen : (parseMethodDescriptor y.desc).map (fun d => d.parameters.length) = some n) (hPc : ∀ U : State, U.heap = H → s.WarmedH U.vm → Pc As.toArray U) (hg : g.method = m) (hn : As.length = n) (hsize : g.locals.size = nL) (hstack : g.stack = As.reverse ++ rest) (hW : 2 * g.monitorRoom + (rest.map fun v => v.category).sum ≤ 8) (hdg : decode cc g.pc = .ok (.invokestatic index, 3)) (hf : cells + mc ≤ R.cells ∧ slots + ms ≤ R.slots) :
    va_Run p l e R s m args below meth c H locs cells slots mc ms g rest (Qc As.toArray) free := by
  have hK : Back l R p e below s args y 3 8 (PreOf R mc ms Pc) (PostOf Qc mc ms free) := va_backW (hh := hh) (bytes := bytes) (maxL := maxL) (ret := ret') hM hblind hrc hrs hfr hlo hws hcode (fun a' U hW => word_at hW (Or.inl (by first | rfl | simp [Cond.onTables, Cond.keeps, Cond.steady])) hini)
  obtain ⟨hx, hb, hml, ho, -⟩ := S
  obtain ⟨mk, methY, cY, hnamed, hmY, hcY, -, -, -, -, -, hsig⟩ := Cond.codeWith_spec hcw
  have hstatic := Cond.static_spec hnamed hmY hst
  obtain ⟨kP, hkP, -⟩ := className_of_methodNamed hnamed
  have hinitP := Cond.initialized_spec (findClass_of_methodNamed hnamed) hkP hini
  have hpl : As.length = methY.sig.parameters.length := by
    rw [hsig] at hlen
    rw [hn]
    exact (Option.some.inj hlen).symm
  intro T hT X
  obtain ⟨vm1, X1, hstep⟩ := X.invokestatic hx ho hlink hnamed hmY hstatic hkP hinitP hy (g := g) hg (argsL := As) (rest := rest) hpl hstack (by rw [hb]; exact hdg)
  obtain ⟨v, ⟨U', l2, c2, s2⟩, X', ⟨g', mk', t, L, e1, e2, hq, h1, hL, h2, h3⟩, hsteps⟩ := hK m meth c ⟨T.setVm vm1, locs, cells, slots⟩ { g with stack := rest } (.invokestatic index) mk As.toArray X1 hg (hsize.trans hml.symm) (by rw [hb]; exact hdg) hW (X1.named hnamed) ⟨hf.1, hf.2, hPc (T.setVm vm1) hT X1.warmed⟩
  dsimp only [Pt.U, Pt.locs, Pt.cells, Pt.slots] at X' e1 e2 h1 h2 h3 hsteps
  subst h1; subst h2; subst h3
  exact ⟨v, (T.setVm vm1).calling g' mk' As.toArray, t, U', L, hT, X', hL, e1, e2, hq, fun target h => hstep _ fun acts => by rw [doInvoke_state]; exact hsteps.trans h⟩
theorem ww_good {j : mx_I} (h : Cond.codeWith j.1 j.2.1 j.2.2.1 j.2.2.2.1 [(0, 9, 12, 13)] ∈ mx_tb) : GoodIn mx_tb (ww j) := by
  intro w hw
  rcases List.mem_cons.mp hw with rfl | hw
  · exact ⟨h, (mx_tb_good _ h).2⟩
  · exact ⟨hw, (mx_tb_good w hw).2⟩
section LAWX
variable {p : Program} {l : Launch} {e : Env} {s : State} {m : MethodId} {below : List Frame} {meth : Method} {c : Code} {H : Heap} {locs : List Loc} {cells slots pc : Nat} {Q : State → Prop} {ls : Array Slot} {lv : mx_L} {D : va_G} {cI cZ cJ : ClassId} {g : mx_G} {z zM w b jj : Nat} {SR SM : xS} {x : Int64} {i : Int32} {cc : List II} {va fu : Int32} {lo wo : Nat → Int32}
set_option maxHeartbeats 1000000 in
theorem lw_A148 (hC : LK p l s m meth c D cI cZ cJ g b z w) (hLr : lawR z SR cc va fu lo wo) (hh : m_hasL i = true) (hjj : jj ≤ 600) (hl : lv_has ls 7 lv) (hdg : decode code pc = .ok (.invokestatic 53, 3)) (hL : LH s D cI cZ cJ g z zM w jj H locs cells slots SR SM x)
    (kk : ∀ (H1 : Heap) (locs1 : List Loc) (c1 s1 : Nat), LH s D cI cZ cJ g z zM w jj H1 locs1 c1 s1 SR SM (mLa lo i).toInt64 → W p l e room_1 s m #[Value.ref b] below meth c H1 locs1 c1 s1 Q (F0 m (pc + 3) ls [.int 0])) : W p l e room_1 s m #[Value.ref b] below meth c H locs cells slots Q (F0 m pc ls [.ref w, .int i, .ref z]) := by
  obtain ⟨hR, hM, cR, cM, r1, r2, vs, i1, i2, dj, w1, w2, w3, nm, b1, b2⟩ := hL
  obtain ⟨⟨hx, hb, hml, hr, hown, hts, hlk, hname, hK, hN, hZz, hA⟩, hg, hO, hz1, hz2, ⟨q1, hv1⟩, ⟨q2, hv2⟩, hJ, hfl, hzs, hws⟩ := hC
  have hz : H.size = hR.1 := r1.1
  have hzM : H.size = hM.1 := r2.1
  have hwl : w < H.size := (Array.getElem?_eq_some_iff.mp w3).1
  obtain ⟨k1, k2⟩ := xI_cap i1 nm
  have k1 : hR.1 ≤ cR.1 + 247 := k1
  have k2 : hR.2.1 ≤ cR.2 + 4980128 := k2
  obtain ⟨hf, j1, dm, m1, m2, hMet⟩ := a_148 (l := l) (D := D) (cI := cI) (cZ := cZ) (cJ := cJ) (x0 := x) i1 hLr hh (by omega) w1
  obtain ⟨k3, k4⟩ := xI_cap j1 nm
  have k3 : hf.1 ≤ cR.1 + 247 := k3
  have k4 : hf.2.1 ≤ cR.2 + 4980128 := k4
  have hAA : ∀ q, AA hR w q → lwA s q := by
    intro q hq
    rcases hq with (hq | hq) | hq
    · obtain ⟨y, hy⟩ := Option.isSome_iff_exists.mp hq
      exact (r1.2.2 q y hy).2
    · exact Nat.le_trans vs.1 (by rw [hz]; exact hq)
    · rw [hq]; exact hws
  have run := va_runSW' (l := l) (e := e) (R := room_1) (below := below) (meth := meth) (H := H) (locs := locs) (cells := cells) (slots := slots) (index := 53) (n := 3) (As := [.ref z, .int i, .ref w]) (rest := []) (g := F0 m pc ls [.ref w, .int i, .ref z]) ⟨hx, hb, hml, hown, hts⟩ hMet aPre.blind rfl rfl (Nat.le_of_ble_eq_true rfl) (Nat.le_of_ble_eq_true rfl) (pay_in hts (ww_good w_cw148)) List.mem_cons_self (hts _ tx_65) (hts _ tx_769) (hts _ tx_770) (hts _ w_cw148) (by decide) (by decide +kernel) (fun U hU hW => ⟨rfl, by rw [hU]; exact r1.weak (fun _ _ => trivial), va_K.moved hW.alike hK, mx_nst_warm hW hN, by rw [hU]; exact ((hZz.keep vs).move hW.alike).less hAA, by rw [hU]; exact w3, arrOfT_moved hW.alike hJ⟩) rfl rfl hl.1 rfl (Nat.le_of_ble_eq_true rfl) hdg ⟨by show cells + (hf.1 - hR.1) ≤ 601024; omega, by show slots + (hf.2.1 - hR.2.1) ≤ 7293034; omega⟩
  intro T hT XT
  obtain ⟨v1, st0, t, T', L, h0, X', hLf, e1, e2, ⟨hv, hR1, hw1, hs1, hk1⟩, go⟩ := run T hT XT
  cases hv
  rw [h0] at hs1 hk1
  have hS1 : va_S (lwA s) s.heap T'.heap (locs ++ L) := by
    refine ⟨Nat.le_trans vs.1 (by rw [e1]; exact hs1), fun q a1 a2 => ?_, fun q hq => ?_⟩
    · rw [e1, hk1 q (Nat.lt_of_lt_of_le a1 vs.1) (fun q => a2 (hAA _ q))]
      exact vs.2.1 q a1 a2
    · rcases List.mem_append.mp hq with q | q
      · exact vs.2.2 _ q
      · exact hAA _ (hLf _ q)
  have hsz : T'.heap.size = hf.1 := by rw [e1]; exact hR1.1
  have hLH : LH s D cI cZ cJ g z zM w jj T'.heap (locs ++ L) (cells + (hf.1 - hR.1)) (slots + (hf.2.1 - hR.2.1)) SR SM (mLa lo i).toInt64 := by
    refine ⟨hf, (T'.heap.size, hM.2.1, hM.2.2.1, hM.2.2.2), cR, (cM.1 + (T'.heap.size - hM.1), cM.2), by rw [e1]; exact hR1.weak hAA, r2.move (fun q hq hg => ?_), hS1, j1, ?_, fun q hg => ?_, dm w (by omega) w1, w2, by rw [e1]; exact hw1, nm, by omega, by omega⟩
    · rw [e1]
      refine hk1 q hq (fun a => ?_)
      rcases a with (a | a) | a
      · rw [dj q hg] at a; cases a
      · omega
      · rw [a] at hg; exact hg w2
    · have := xI_grow i2 (T'.heap.size - hM.1)
      rwa [show hM.1 + (T'.heap.size - hM.1) = T'.heap.size by omega] at this
    · have hg : ¬ mx_get hM q = none := hg
      refine dm q ?_ (dj q hg)
      cases hv : mx_get hM q with
      | none => exact absurd hv hg
      | some y => have := (r2.2.2 q y hv).1.lt; show q < hR.1; rw [← hz]; exact this
  obtain ⟨t2, a1, b1⟩ := kk T'.heap (locs ++ L) _ _ hLH T' rfl X'
  exact ⟨t2, go t2 a1, b1⟩
set_option maxHeartbeats 1000000 in
theorem lw_B148 (hC : LK p l s m meth c D cI cZ cJ g b z w) (hr0 : ∃ fs, SR 0 = some (.inr (.inr (9, fs)))) (hh : m_hasL i = false) (hjj : jj ≤ 600) (hl : lv_has ls 7 lv) (hdg : decode code pc = .ok (.invokestatic 53, 3)) (hL : LH s D cI cZ cJ g z zM w jj H locs cells slots SR SM x)
    (kk : ∀ (H1 : Heap) (locs1 : List Loc) (c1 s1 : Nat), LH s D cI cZ cJ g z zM w (jj + 1) H1 locs1 c1 s1 SR SM x → W p l e room_1 s m #[Value.ref b] below meth c H1 locs1 c1 s1 Q (F0 m (pc + 3) ls [.int 1])) : W p l e room_1 s m #[Value.ref b] below meth c H locs cells slots Q (F0 m pc ls [.ref w, .int i, .ref z]) := by
  obtain ⟨hR, hM, cR, cM, r1, r2, vs, i1, i2, dj, w1, w2, w3, nm, b1, b2⟩ := hL
  obtain ⟨⟨hx, hb, hml, hr, hown, hts, hlk, hname, hK, hN, hZz, hA⟩, hg, hO, hz1, hz2, ⟨q1, hv1⟩, ⟨q2, hv2⟩, hJ, hfl, hzs, hws⟩ := hC
  have hz : H.size = hR.1 := r1.1
  have hzM : H.size = hM.1 := r2.1
  have hwl : w < H.size := (Array.getElem?_eq_some_iff.mp w3).1
  obtain ⟨k1, k2⟩ := xI_cap i1 nm
  have k1 : hR.1 ≤ cR.1 + 247 := k1
  have k2 : hR.2.1 ≤ cR.2 + 4980128 := k2
  obtain ⟨fs0, hfs0⟩ := hr0
  have hrec := va_recv hK (mx_P1 (r1.2.2 z _ (i1.obj (k := 0) hfs0)).1) (ci := 9) (q := (RX9, TX9, 8)) (q0 := 0) rfl rfl
  have hAl : ∀ q, H.size ≤ q → lwA s q := fun q hq => Nat.le_trans vs.1 hq
  have run := va_runSW' (l := l) (e := e) (R := room_1) (below := below) (meth := meth) (H := H) (locs := locs) (cells := cells) (slots := slots) (index := 53) (n := 3) (As := [.ref z, .int i, .ref w]) (rest := []) (g := F0 m pc ls [.ref w, .int i, .ref z]) ⟨hx, hb, hml, hown, hts⟩ (b_148 hfl D cI cZ g z w s.heap.size _ i hg hh) bPre.blind rfl rfl (by decide) (by decide) (pay_in hts (ww_good w_cw148)) List.mem_cons_self (hts _ tx_65) (hts _ tx_769) (hts _ tx_770) (hts _ w_cw148) (by decide) (by decide +kernel) (fun U hU hW => ⟨rfl, ⟨rfl, by rw [hU]; exact vs.1, va_K.moved hW.alike hK, mx_nst_warm hW hN, by rw [hU]; exact ((hZz.keep vs).move hW.alike).less hAl, oaT.warm hW hO, by rw [hU]; exact (tZ.moved hW.alike (hz1.kept vs.2.1)).narrow hAl, by rw [hU]; exact (tZ.moved hW.alike (hz2.kept vs.2.1)).narrow hAl, vk_R.warm hW hv1⟩, by
      obtain ⟨cell, x1, x2, x3⟩ := hrec
      exact ⟨cell, by rw [hU]; exact x1, x2, by rw [hW.alike.findClass]; exact x3⟩⟩) rfl rfl hl.1 rfl (Nat.le_of_ble_eq_true rfl) hdg ⟨by show cells + 1 ≤ 601024; omega, by show slots + 6 ≤ 7293034; omega⟩
  intro T hT XT
  obtain ⟨v1, st0, t, T', L, h0, X', hLf, e1, e2, ⟨hv, hs1, hk1⟩, go⟩ := run T hT XT
  cases hv
  rw [h0] at hs1 hk1
  have hsz : T'.heap.size = H.size + 1 := by rw [e1]; exact hs1
  have hk2 : ∀ q : Nat, q < H.size → T'.heap[q]? = H[q]? := fun q hq => by rw [e1]; exact hk1 q hq
  have hS1 : va_S (lwA s) s.heap T'.heap (locs ++ L) := by
    refine ⟨Nat.le_trans vs.1 (by omega), fun q a1 a2 => ?_, fun q hq => ?_⟩
    · rw [hk2 q (Nat.lt_of_lt_of_le a1 vs.1)]
      exact vs.2.1 q a1 a2
    · rcases List.mem_append.mp hq with q | q
      · exact vs.2.2 _ q
      · exact (hLf _ q).elim
  have hLH : LH s D cI cZ cJ g z zM w (jj + 1) T'.heap (locs ++ L) (cells + 1) (slots + 6) SR SM x := by
    refine ⟨(T'.heap.size, hR.2.1, hR.2.2.1, hR.2.2.2), (T'.heap.size, hM.2.1, hM.2.2.1, hM.2.2.2), (cR.1 + (T'.heap.size - hR.1), cR.2), (cM.1 + (T'.heap.size - hM.1), cM.2), r1.move (fun q hq _ => hk2 q hq), r2.move (fun q hq _ => hk2 q hq), hS1, ?_, ?_, fun q hg => dj q hg, w1, w2, (hk2 w hwl).trans w3, nm, ?_, ?_⟩
    · have := xI_grow i1 (T'.heap.size - hR.1)
      rwa [show hR.1 + (T'.heap.size - hR.1) = T'.heap.size by omega] at this
    · have := xI_grow i2 (T'.heap.size - hM.1)
      rwa [show hM.1 + (T'.heap.size - hM.1) = T'.heap.size by omega] at this
    · show cells + 1 + (cR.1 + (T'.heap.size - hR.1) + 247 - T'.heap.size) ≤ 1000 + (jj + 1)
      omega
    · show slots + 6 + (cR.2 + 4980128 - hR.2.1) ≤ 5000000 + 6 * (jj + 1)
      omega
  obtain ⟨t2, a1, b1⟩ := kk T'.heap (locs ++ L) _ _ hLH T' rfl X'
  exact ⟨t2, go t2 a1, b1⟩
set_option maxHeartbeats 1000000 in
theorem lw_A149 (hC : LK p l s m meth c D cI cZ cJ g b z w) (hLr : lawR z SR cc va fu lo wo) (hh : m_hasW i.toInt64 = true) (hjj : jj ≤ 600) (hl : lv_has ls 7 lv) (hdg : decode code pc = .ok (.invokestatic 66, 3)) (hL : LH s D cI cZ cJ g z zM w jj H locs cells slots SR SM x)
    (kk : ∀ (H1 : Heap) (locs1 : List Loc) (c1 s1 : Nat), LH s D cI cZ cJ g z zM w jj H1 locs1 c1 s1 SR SM (mVa wo i).toInt64 → W p l e room_1 s m #[Value.ref b] below meth c H1 locs1 c1 s1 Q (F0 m (pc + 3) ls [.int 0])) : W p l e room_1 s m #[Value.ref b] below meth c H locs cells slots Q (F0 m pc ls [.ref w, .int i, .ref z]) := by
  obtain ⟨hR, hM, cR, cM, r1, r2, vs, i1, i2, dj, w1, w2, w3, nm, b1, b2⟩ := hL
  obtain ⟨⟨hx, hb, hml, hr, hown, hts, hlk, hname, hK, hN, hZz, hA⟩, hg, hO, hz1, hz2, ⟨q1, hv1⟩, ⟨q2, hv2⟩, hJ, hfl, hzs, hws⟩ := hC
  have hz : H.size = hR.1 := r1.1
  have hzM : H.size = hM.1 := r2.1
  have hwl : w < H.size := (Array.getElem?_eq_some_iff.mp w3).1
  obtain ⟨k1, k2⟩ := xI_cap i1 nm
  have k1 : hR.1 ≤ cR.1 + 247 := k1
  have k2 : hR.2.1 ≤ cR.2 + 4980128 := k2
  obtain ⟨hf, j1, dm, m1, m2, hMet⟩ := a_149 (l := l) (D := D) (cI := cI) (cZ := cZ) (cJ := cJ) (x0 := x) i1 hLr hh (by omega) w1
  obtain ⟨k3, k4⟩ := xI_cap j1 nm
  have k3 : hf.1 ≤ cR.1 + 247 := k3
  have k4 : hf.2.1 ≤ cR.2 + 4980128 := k4
  have hAA : ∀ q, AA hR w q → lwA s q := by
    intro q hq
    rcases hq with (hq | hq) | hq
    · obtain ⟨y, hy⟩ := Option.isSome_iff_exists.mp hq
      exact (r1.2.2 q y hy).2
    · exact Nat.le_trans vs.1 (by rw [hz]; exact hq)
    · rw [hq]; exact hws
  have run := va_runSW' (l := l) (e := e) (R := room_1) (below := below) (meth := meth) (H := H) (locs := locs) (cells := cells) (slots := slots) (index := 66) (n := 3) (As := [.ref z, .int i, .ref w]) (rest := []) (g := F0 m pc ls [.ref w, .int i, .ref z]) ⟨hx, hb, hml, hown, hts⟩ hMet aPre.blind rfl rfl (Nat.le_of_ble_eq_true rfl) (Nat.le_of_ble_eq_true rfl) (pay_in hts (ww_good w_cw149)) List.mem_cons_self (hts _ tx_65) (hts _ tx_844) (hts _ tx_845) (hts _ w_cw149) (by decide) (by decide +kernel) (fun U hU hW => ⟨rfl, by rw [hU]; exact r1.weak (fun _ _ => trivial), va_K.moved hW.alike hK, mx_nst_warm hW hN, by rw [hU]; exact ((hZz.keep vs).move hW.alike).less hAA, by rw [hU]; exact w3, arrOfT_moved hW.alike hJ⟩) rfl rfl hl.1 rfl (Nat.le_of_ble_eq_true rfl) hdg ⟨by show cells + (hf.1 - hR.1) ≤ 601024; omega, by show slots + (hf.2.1 - hR.2.1) ≤ 7293034; omega⟩
  intro T hT XT
  obtain ⟨v1, st0, t, T', L, h0, X', hLf, e1, e2, ⟨hv, hR1, hw1, hs1, hk1⟩, go⟩ := run T hT XT
  cases hv
  rw [h0] at hs1 hk1
  have hS1 : va_S (lwA s) s.heap T'.heap (locs ++ L) := by
    refine ⟨Nat.le_trans vs.1 (by rw [e1]; exact hs1), fun q a1 a2 => ?_, fun q hq => ?_⟩
    · rw [e1, hk1 q (Nat.lt_of_lt_of_le a1 vs.1) (fun q => a2 (hAA _ q))]
      exact vs.2.1 q a1 a2
    · rcases List.mem_append.mp hq with q | q
      · exact vs.2.2 _ q
      · exact hAA _ (hLf _ q)
  have hsz : T'.heap.size = hf.1 := by rw [e1]; exact hR1.1
  have hLH : LH s D cI cZ cJ g z zM w jj T'.heap (locs ++ L) (cells + (hf.1 - hR.1)) (slots + (hf.2.1 - hR.2.1)) SR SM (mVa wo i).toInt64 := by
    refine ⟨hf, (T'.heap.size, hM.2.1, hM.2.2.1, hM.2.2.2), cR, (cM.1 + (T'.heap.size - hM.1), cM.2), by rw [e1]; exact hR1.weak hAA, r2.move (fun q hq hg => ?_), hS1, j1, ?_, fun q hg => ?_, dm w (by omega) w1, w2, by rw [e1]; exact hw1, nm, by omega, by omega⟩
    · rw [e1]
      refine hk1 q hq (fun a => ?_)
      rcases a with (a | a) | a
      · rw [dj q hg] at a; cases a
      · omega
      · rw [a] at hg; exact hg w2
    · have := xI_grow i2 (T'.heap.size - hM.1)
      rwa [show hM.1 + (T'.heap.size - hM.1) = T'.heap.size by omega] at this
    · have hg : ¬ mx_get hM q = none := hg
      refine dm q ?_ (dj q hg)
      cases hv : mx_get hM q with
      | none => exact absurd hv hg
      | some y => have := (r2.2.2 q y hv).1.lt; show q < hR.1; rw [← hz]; exact this
  obtain ⟨t2, a1, b1⟩ := kk T'.heap (locs ++ L) _ _ hLH T' rfl X'
  exact ⟨t2, go t2 a1, b1⟩
set_option maxHeartbeats 1000000 in
theorem lw_B149 (hC : LK p l s m meth c D cI cZ cJ g b z w) (hr0 : ∃ fs, SR 0 = some (.inr (.inr (9, fs)))) (hh : m_hasW i.toInt64 = false) (hjj : jj ≤ 600) (hl : lv_has ls 7 lv) (hdg : decode code pc = .ok (.invokestatic 66, 3)) (hL : LH s D cI cZ cJ g z zM w jj H locs cells slots SR SM x)
    (kk : ∀ (H1 : Heap) (locs1 : List Loc) (c1 s1 : Nat), LH s D cI cZ cJ g z zM w (jj + 1) H1 locs1 c1 s1 SR SM x → W p l e room_1 s m #[Value.ref b] below meth c H1 locs1 c1 s1 Q (F0 m (pc + 3) ls [.int 1])) : W p l e room_1 s m #[Value.ref b] below meth c H locs cells slots Q (F0 m pc ls [.ref w, .int i, .ref z]) := by
  obtain ⟨hR, hM, cR, cM, r1, r2, vs, i1, i2, dj, w1, w2, w3, nm, b1, b2⟩ := hL
  obtain ⟨⟨hx, hb, hml, hr, hown, hts, hlk, hname, hK, hN, hZz, hA⟩, hg, hO, hz1, hz2, ⟨q1, hv1⟩, ⟨q2, hv2⟩, hJ, hfl, hzs, hws⟩ := hC
  have hz : H.size = hR.1 := r1.1
  have hzM : H.size = hM.1 := r2.1
  have hwl : w < H.size := (Array.getElem?_eq_some_iff.mp w3).1
  obtain ⟨k1, k2⟩ := xI_cap i1 nm
  have k1 : hR.1 ≤ cR.1 + 247 := k1
  have k2 : hR.2.1 ≤ cR.2 + 4980128 := k2
  obtain ⟨fs0, hfs0⟩ := hr0
  have hrec := va_recv hK (mx_P1 (r1.2.2 z _ (i1.obj (k := 0) hfs0)).1) (ci := 9) (q := (RX9, TX9, 8)) (q0 := 0) rfl rfl
  have hAl : ∀ q, H.size ≤ q → lwA s q := fun q hq => Nat.le_trans vs.1 hq
  have run := va_runSW' (l := l) (e := e) (R := room_1) (below := below) (meth := meth) (H := H) (locs := locs) (cells := cells) (slots := slots) (index := 66) (n := 3) (As := [.ref z, .int i, .ref w]) (rest := []) (g := F0 m pc ls [.ref w, .int i, .ref z]) ⟨hx, hb, hml, hown, hts⟩ (b_149 hfl D cI cZ g z w s.heap.size _ i hg hh) bPre.blind rfl rfl (by decide) (by decide) (pay_in hts (ww_good w_cw149)) List.mem_cons_self (hts _ tx_65) (hts _ tx_844) (hts _ tx_845) (hts _ w_cw149) (by decide) (by decide +kernel) (fun U hU hW => ⟨rfl, ⟨rfl, by rw [hU]; exact vs.1, va_K.moved hW.alike hK, mx_nst_warm hW hN, by rw [hU]; exact ((hZz.keep vs).move hW.alike).less hAl, oaT.warm hW hO, by rw [hU]; exact (tZ.moved hW.alike (hz1.kept vs.2.1)).narrow hAl, by rw [hU]; exact (tZ.moved hW.alike (hz2.kept vs.2.1)).narrow hAl, vk_R.warm hW hv2⟩, by
      obtain ⟨cell, x1, x2, x3⟩ := hrec
      exact ⟨cell, by rw [hU]; exact x1, x2, by rw [hW.alike.findClass]; exact x3⟩⟩) rfl rfl hl.1 rfl (Nat.le_of_ble_eq_true rfl) hdg ⟨by show cells + 1 ≤ 601024; omega, by show slots + 6 ≤ 7293034; omega⟩
  intro T hT XT
  obtain ⟨v1, st0, t, T', L, h0, X', hLf, e1, e2, ⟨hv, hs1, hk1⟩, go⟩ := run T hT XT
  cases hv
  rw [h0] at hs1 hk1
  have hsz : T'.heap.size = H.size + 1 := by rw [e1]; exact hs1
  have hk2 : ∀ q : Nat, q < H.size → T'.heap[q]? = H[q]? := fun q hq => by rw [e1]; exact hk1 q hq
  have hS1 : va_S (lwA s) s.heap T'.heap (locs ++ L) := by
    refine ⟨Nat.le_trans vs.1 (by omega), fun q a1 a2 => ?_, fun q hq => ?_⟩
    · rw [hk2 q (Nat.lt_of_lt_of_le a1 vs.1)]
      exact vs.2.1 q a1 a2
    · rcases List.mem_append.mp hq with q | q
      · exact vs.2.2 _ q
      · exact (hLf _ q).elim
  have hLH : LH s D cI cZ cJ g z zM w (jj + 1) T'.heap (locs ++ L) (cells + 1) (slots + 6) SR SM x := by
    refine ⟨(T'.heap.size, hR.2.1, hR.2.2.1, hR.2.2.2), (T'.heap.size, hM.2.1, hM.2.2.1, hM.2.2.2), (cR.1 + (T'.heap.size - hR.1), cR.2), (cM.1 + (T'.heap.size - hM.1), cM.2), r1.move (fun q hq _ => hk2 q hq), r2.move (fun q hq _ => hk2 q hq), hS1, ?_, ?_, fun q hg => dj q hg, w1, w2, (hk2 w hwl).trans w3, nm, ?_, ?_⟩
    · have := xI_grow i1 (T'.heap.size - hR.1)
      rwa [show hR.1 + (T'.heap.size - hR.1) = T'.heap.size by omega] at this
    · have := xI_grow i2 (T'.heap.size - hM.1)
      rwa [show hM.1 + (T'.heap.size - hM.1) = T'.heap.size by omega] at this
    · show cells + 1 + (cR.1 + (T'.heap.size - hR.1) + 247 - T'.heap.size) ≤ 1000 + (jj + 1)
      omega
    · show slots + 6 + (cR.2 + 4980128 - hR.2.1) ≤ 5000000 + 6 * (jj + 1)
      omega
  obtain ⟨t2, a1, b1⟩ := kk T'.heap (locs ++ L) _ _ hLH T' rfl X'
  exact ⟨t2, go t2 a1, b1⟩
end LAWX
