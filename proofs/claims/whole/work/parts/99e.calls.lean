/-! CALLS THAT SAY WHAT THEY LEAVE ALONE (out of parts 06 and 07, by wip/gen99e.py) -/
theorem mx_goF {p : Program} {l : Launch} {e : Env} {R : Room} {s : State} {m : MethodId} {args : Array Value} {below : List Frame} {meth : Method} {c : Code} {H : Heap} {locs : List Loc} {cells slots mc ms pc : Nat} {Q : State → Prop} {ls : Array Slot} {st0 rest : List Value} {D : va_G} {cI cZ : ClassId} {A : Nat → Prop} {h hf : mx_H} {v : Option Value} {a : Array Value}
    (hr : va_Run p l e R s m args below meth c H locs cells slots mc ms (F0 m pc ls st0) rest (mx_Post D cI cZ h v hf a) (mx_A h)) (hS : va_S A s.heap H locs) (hA : ∀ q, mx_A h q → A q)
    (kk : ∀ (H1 : Heap) (locs1 : List Loc), mx_R D cI cZ A h.2.2.2 hf H1 → va_S A s.heap H1 locs1 → (∀ q : Nat, q < H.size → ¬ mx_A h q → H1[q]? = H[q]?) → H.size ≤ H1.size → W p l e R s m args below meth c H1 locs1 (cells + mc) (slots + ms) Q (F0 m (pc + 3) ls (v.toList ++ rest))) : W p l e R s m args below meth c H locs cells slots Q (F0 m pc ls st0) := by
  intro T hT X
  obtain ⟨v1, st1, t, T', L, h0, X', hL, e1, e2, ⟨hv, hR1, hz, hk⟩, st⟩ := hr T hT X
  cases hv
  rw [h0] at hz hk
  have hS1 : va_S A s.heap T'.heap (locs ++ L) := by
    refine ⟨Nat.le_trans hS.1 (by rw [e1]; exact hz), fun q h1 h2 => ?_, fun q hq => ?_⟩
    · rw [e1, hk q (Nat.lt_of_lt_of_le h1 hS.1) (fun z => h2 (hA q z))]
      exact hS.2.1 q h1 h2
    · rcases List.mem_append.mp hq with h | h
      · exact hS.2.2 q h
      · exact hA _ (hL q h)
  obtain ⟨t2, a1, b1⟩ := kk T'.heap (locs ++ L) (by rw [e1]; exact hR1.weak hA) hS1 (fun q h1 h2 => by rw [e1]; exact hk q h1 h2) (by rw [e1]; exact hz) T' rfl X'
  exact ⟨t2, st t2 a1, b1⟩
set_option maxHeartbeats 1000000 in
theorem mx_do_callF {p : Program} {l : Launch} {e : Env} {R : Room} {s : State} {m : MethodId} {args : Array Value} {below : List Frame} {meth : Method} {c : Code} {H : Heap} {locs : List Loc} {cells slots pc : Nat} {Q : State → Prop} {ls : Array Slot} {st : List Value} {lv : mx_L} {D : va_G} {cI cZ : ClassId} {A : Nat → Prop} {g : mx_G} {h hf : mx_H} {v : Option Value} {i j : mx_I} {cl : Nat × Nat × Option (Option Nat) × Nat}
    (X : mx_X i.1.cls i.1.name i.2.1 i.2.2.1 i.2.2.2.1 p R s m args meth c D cI cZ A g) (hfr : i.2.2.2.2.1 ≤ R.frames) (hlc : i.2.2.2.2.2 ≤ R.locals) (hcall : mx_call i j pc cl) (hok : mx_cok cl st h = true)
    (hM : Met l j.1 (mx_ws j) (mx_rm j h hf) (mx_Pre D cI cZ (st.take cl.2.1).reverse h) (mx_Post D cI cZ h v hf) (hf.1 - h.1) (hf.2.1 - h.2.1) (mx_A h))
    (hR : mx_R D cI cZ A g h H) (hS : va_S A s.heap H locs) (hl : lv_has ls i.2.2.1 lv) (hcells : cells + (hf.1 - h.1) ≤ R.cells) (hslots : slots + (hf.2.1 - h.2.1) ≤ R.slots)
    (kk : ∀ (H1 : Heap) (locs1 : List Loc), mx_R D cI cZ A g hf H1 → va_S A s.heap H1 locs1 → (∀ q : Nat, q < H.size → ¬ mx_A h q → H1[q]? = H[q]?) → H.size ≤ H1.size → W p l e R s m args below meth c H1 locs1 (cells + (hf.1 - h.1)) (slots + (hf.2.1 - h.2.1)) Q (F0 m (pc + 3) ls (v.toList ++ st.drop cl.2.1))) : W p l e R s m args below meth c H locs cells slots Q (F0 m pc ls st) := by
  obtain ⟨hx, hb, hml, hr, hown, hts, hlk, hname, hK, hN, hZ, hA⟩ := X
  obtain ⟨c1, c2, c3, c4, c5, c6, n, idx, c7, c8, kind⟩ := hcall
  have hAA : ∀ q, mx_A h q → A q := by
    rintro q (h1 | h1)
    · obtain ⟨x, hc⟩ := Option.isSome_iff_exists.mp h1
      exact (hR.2.2 q x hc).2
    · exact hA q (Nat.le_trans (by rw [← hR.1]; exact hS.1) h1)
  have hgood : GoodIn mx_tb (mx_ws j) := by
    intro w hw
    rcases List.mem_cons.mp hw with rfl | hw
    · exact ⟨c4, (mx_tb_good _ c4).2⟩
    · exact ⟨hw, (mx_tb_good w hw).2⟩
  have hgeq : h.2.2.2 = g := hR.2.1
  have hpre : ∀ U : State, U.heap = H → s.WarmedH U.vm → mx_Pre D cI cZ (st.take cl.2.1).reverse h (st.take cl.2.1).reverse.toArray U := by
    intro U hU hW
    refine ⟨rfl, ?_, va_K.moved hW.alike hK, mx_nst_warm hW hN, ?_⟩
    · rw [hU, hgeq]; exact hR.weak (fun _ _ => trivial)
    · rw [hU, hgeq]; exact ((hZ.keep hS).move hW.alike).less hAA
  unfold mx_cok at hok
  simp only [Bool.and_eq_true, decide_eq_true_eq] at hok
  obtain ⟨k1, k2, k3, k4⟩ := hok
  have hlen : ((st.take cl.2.1).reverse).length = cl.2.1 := by rw [List.length_reverse, List.length_take]; omega
  have kk' : ∀ (H1 : Heap) (locs1 : List Loc), mx_R D cI cZ A h.2.2.2 hf H1 → va_S A s.heap H1 locs1 → (∀ q : Nat, q < H.size → ¬ mx_A h q → H1[q]? = H[q]?) → H.size ≤ H1.size → W p l e R s m args below meth c H1 locs1 (cells + (hf.1 - h.1)) (slots + (hf.2.1 - h.2.1)) Q (F0 m (pc + 3) ls (v.toList ++ st.drop cl.2.1)) := by
    rw [hgeq]; exact kk
  have hrm : (mx_rm j h hf).frames + 1 ≤ R.frames ∧ 8 + (j.2.2.1 + 11) + (mx_rm j h hf).locals ≤ R.locals := ⟨Nat.le_trans c1 hfr, Nat.le_trans c2 hlc⟩
  rcases kind with ⟨e1, ⟨ci, N, T, hci, hcl⟩, hd, hi, hs⟩ | ⟨e1, hd, hs⟩ | ⟨e1, e2, hd, hnm, hret, hi⟩
  · rw [hci] at k4
    obtain ⟨b, As, hav, hfs⟩ := mx_rcv_spec k4
    obtain ⟨fs, hget⟩ := hfs ci rfl
    have hst := mx_take_rev hav
    rw [hav] at hM hpre hlen
    have hn : As.length = n := by simp at hlen; omega
    rcases c8 with hlk | ⟨host, hlk⟩
    · exact mx_goF (va_runV (C := j.1.cls) (As := As) (rest := st.drop cl.2.1) (b := b) ⟨hx, hb, hml, hown, hts⟩ hM ⟨callB_of n hts hgood rfl rfl rfl (hts _ c5) (hts _ hlk) ⟨c6.1, c6.2, c7⟩ hrm, hts _ hi, hts _ hs⟩ ⟨mx_Pre.blind, va_recv hK (mx_P1 (hR.2.2 b _ hget).1) (q0 := 0) hcl rfl, hpre⟩ rfl hn hl.1 hst (by show 2 * 0 + _ ≤ 8; omega) hd ⟨hcells, hslots⟩) hS hAA kk'
    · exact mx_goF (va_runVN (C := j.1.cls) (As := As) (rest := st.drop cl.2.1) (b := b) ⟨hx, hb, hml, hown, hts⟩ hM ⟨va_cnB n hts hgood rfl rfl rfl (hN _ hlk) (hts _ c5) ⟨c6.1, c6.2, c7⟩ hrm, hts _ hi, hts _ hs⟩ ⟨mx_Pre.blind, va_recv hK (mx_P1 (hR.2.2 b _ hget).1) (q0 := 0) hcl rfl, hpre⟩ rfl hn hl.1 hst (by show 2 * 0 + _ ≤ 8; omega) hd ⟨hcells, hslots⟩) hS hAA kk'
  · have hst : st = ((st.take cl.2.1).reverse).reverse ++ st.drop cl.2.1 := by rw [List.reverse_reverse, List.take_append_drop]
    rcases c8 with hlk | ⟨host, hlk⟩
    · exact mx_goF (va_runS (As := (st.take cl.2.1).reverse) (rest := st.drop cl.2.1) ⟨hx, hb, hml, hown, hts⟩ hM ⟨callB_of n hts hgood rfl rfl rfl (hts _ c5) (hts _ hlk) ⟨c6.1, c6.2, c7⟩ hrm, hts _ hs⟩ ⟨mx_Pre.blind, hpre⟩ rfl (by rw [hlen, e1]) hl.1 hst (by show 2 * 0 + _ ≤ 8; omega) hd ⟨hcells, hslots⟩) hS hAA kk'
    · exact mx_goF (va_runSN (As := (st.take cl.2.1).reverse) (rest := st.drop cl.2.1) ⟨hx, hb, hml, hown, hts⟩ hM ⟨va_cnB n hts hgood rfl rfl rfl (hN _ hlk) (hts _ c5) ⟨c6.1, c6.2, c7⟩ hrm, hts _ hs, trivial⟩ ⟨mx_Pre.blind, hpre⟩ rfl (by rw [hlen, e1]) hl.1 hst (by show 2 * 0 + _ ≤ 8; omega) hd ⟨hcells, hslots⟩) hS hAA kk'
  · rw [e2] at k4
    obtain ⟨b, As, hav, -⟩ := mx_rcv_spec k4
    have hst := mx_take_rev hav
    rw [hav] at hM hpre hlen
    have hn : As.length = n := by simp at hlen; omega
    rcases c8 with hlk | ⟨host, hlk⟩
    · have cb := callB_of (ws := mx_ws j) (rm := mx_rm j h hf) n hts hgood rfl rfl rfl (hts _ c5) (hts _ hlk) ⟨c6.1, c6.2, c7⟩ hrm
      rw [hret] at cb
      exact mx_goF (va_runI (As := As) (rest := st.drop cl.2.1) (b := b) ⟨hx, hb, hml, hown, hts⟩ hM ⟨cb, hnm, hts _ hi⟩ ⟨mx_Pre.blind, hpre⟩ rfl hn hl.1 hst (by show 2 * 0 + _ ≤ 8; omega) hd ⟨hcells, hslots⟩) hS hAA kk'
    · have cb := va_cnB (ws := mx_ws j) (rm := mx_rm j h hf) (R := R) n hts hgood rfl rfl rfl (hN _ hlk) (hts _ c5) ⟨c6.1, c6.2, c7⟩ hrm
      rw [hret] at cb
      exact mx_goF (va_runIN (As := As) (rest := st.drop cl.2.1) (b := b) ⟨hx, hb, hml, hown, hts⟩ hM ⟨cb, hnm, hts _ hi⟩ ⟨mx_Pre.blind, hpre⟩ rfl hn hl.1 hst (by show 2 * 0 + _ ≤ 8; omega) hd ⟨hcells, hslots⟩) hS hAA kk'
/-- a call by what the walk says of it -/
theorem mx_callX {p : Program} {l : Launch} {e : Env} {R : Room} {s : State} {m : MethodId} {args : Array Value} {below : List Frame} {meth : Method} {c : Code} {H : Heap} {locs : List Loc} {cells slots pc : Nat} {Q : State → Prop} {ls : Array Slot} {st rest : List Value} {lv lv' : mx_L} {D : va_G} {cI cZ : ClassId} {A : Nat → Prop} {g : mx_G} {h : mx_H} {i j : mx_I} {cl : Nat × Nat × Option (Option Nat) × Nat} {z : Nat} {NK : List Nat} {c0 : Nat × Nat} {S : xS} {P : Option Value → xS → Prop} {K1 K2 : Nat}
    (X : mx_X i.1.cls i.1.name i.2.1 i.2.2.1 i.2.2.2.1 p R s m args meth c D cI cZ A g) (hfr : i.2.2.2.2.1 ≤ R.frames) (hlc : i.2.2.2.2.2 ≤ R.locals) (hj : mx_I0 cl.1 = some j) (hcall : mx_call i j pc cl) (hok : mx_cok cl st h = true) (hlv : lv_args 0 (st.take cl.2.1).reverse = lv') (hrest : st.drop cl.2.1 = rest)
    (hx : xw z NK g cl.1 0 lv' [] S P) (hI : xI z NK c0 g h S) (hK : ∀ v h' S', P v S' → xI z NK c0 g h' S' → h'.1 ≤ K1 ∧ h'.2.1 ≤ K2) (hR : mx_R D cI cZ A g h H) (hS : va_S A s.heap H locs) (hl : lv_has ls i.2.2.1 lv) (hcells : cells + (K1 - h.1) ≤ R.cells) (hslots : slots + (K2 - h.2.1) ≤ R.slots)
    (kk : ∀ (v : Option Value) (h' : mx_H) (S' : xS) (H1 : Heap) (locs1 : List Loc), P v S' → xI z NK c0 g h' S' → mx_R D cI cZ A g h' H1 → va_S A s.heap H1 locs1 → (∀ q : Nat, q < H.size → mx_get h q = none → H1[q]? = H[q]?) → (∀ q, q < h.1 → mx_get h q = none → mx_get h' q = none) → h.1 ≤ h'.1 → h.2.1 ≤ h'.2.1 → W p l e R s m args below meth c H1 locs1 (cells + (h'.1 - h.1)) (slots + (h'.2.1 - h.2.1)) Q (F0 m (pc + 3) ls (v.toList ++ rest))) : W p l e R s m args below meth c H locs cells slots Q (F0 m pc ls st) := by
  obtain ⟨v, h', S', ⟨n, ex⟩, hI', hP⟩ := hx c0 h hI
  obtain ⟨b1, b2⟩ := hK v h' S' hP hI'
  have hk2 := hok
  unfold mx_cok at hk2
  simp only [Bool.and_eq_true, decide_eq_true_eq] at hk2
  rw [← hlv] at ex
  have hM := mx_all l D cI cZ cl.1 j hj n (st.take cl.2.1).reverse h v h' ex (by rw [← hcall.2.2.1]; exact hk2.2.2.1)
  obtain ⟨m1, m2, -⟩ := mx_exec_mono mx_M_mono _ _ _ _ _ _ _ ex
  have hz : H.size = h.1 := hR.1
  refine mx_do_callF X hfr hlc hcall hok hM hR hS hl (by omega) (by omega) (fun H1 locs1 hR1 hS1 hk1 _ => ?_)
  rw [hrest]
  refine kk v h' S' H1 locs1 hP hI' hR1 hS1 (fun q h1 h2 => hk1 q h1 (fun w => ?_)) (fun q h1 h2 => dm_exec _ _ _ _ _ _ _ ex q h1 h2) m1 m2
  rcases w with w | w
  · rw [h2] at w; cases w
  · omega
/-- how much a run can make -/
theorem xI_cap {z : Nat} {NK : List Nat} {c : Nat × Nat} {g : mx_G} {h : mx_H} {S : xS} (hI : xI z NK c g h S) (hall : ∀ k ∈ NK, ∃ xs, S k = some (.inl xs)) : h.1 ≤ c.1 + 13 * NK.length ∧ h.2.1 ≤ c.2 + 262112 * NK.length := by
  obtain ⟨-, e, ar, f, h1, h2, -, -, h5, -⟩ := hI
  have he : ∀ k ∈ NK, e k ≤ 13 := fun k hk => by
    obtain ⟨xs, hx⟩ := hall k hk
    exact (h5 k xs hx).2.2.2.2.1
  have s1 : ∀ l : List Nat, (∀ k ∈ l, e k ≤ 13) → (l.map e).sum ≤ 13 * l.length ∧ (l.map fun k => 32 * 2 ^ e k - 32).sum ≤ 262112 * l.length := by
    intro l
    induction l with
    | nil => intro _; exact ⟨Nat.le_refl _, Nat.le_refl _⟩
    | cons a r ih =>
      intro h
      obtain ⟨i1, i2⟩ := ih (fun k hk => h k (List.mem_cons_of_mem _ hk))
      have ha := h a List.mem_cons_self
      have hp : 2 ^ e a ≤ 2 ^ 13 := Nat.pow_le_pow_right (by decide) ha
      have hp2 : (2 : Nat) ^ 13 = 8192 := by decide
      simp only [List.map_cons, List.sum_cons, List.length_cons]
      omega
  obtain ⟨i1, i2⟩ := s1 NK he
  omega
