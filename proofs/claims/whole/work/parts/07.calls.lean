theorem mx_rcv_spec {o : Option Nat} {av : List Value} {h : mx_H} (hk : mx_rcv (some o) av h = true) : ∃ (b : Nat) (As : List Value), av = .ref b :: As ∧ ∀ ci, o = some ci → ∃ fs, mx_get h b = some (.inr (ci, fs)) := by
  unfold mx_rcv at hk
  split at hk
  · rename_i heq; cases heq
  · rename_i heq
    cases heq
    exact ⟨_, _, rfl, fun ci h => by cases h⟩
  · rename_i ci b r heq
    cases heq
    refine ⟨b, r, rfl, fun ci' h' => ?_⟩
    cases h'
    split at hk
    · rename_i o ho
      have h1 : o.1 = ci := by simpa using hk
      exact ⟨o.2, by rw [ho, ← h1]⟩
    · cases hk
  · cases hk
theorem mx_take_rev {st : List Value} {k : Nat} {b : Nat} {As : List Value} (h : (st.take k).reverse = .ref b :: As) : st = As.reverse ++ .ref b :: st.drop k := by
  have h1 : st.take k = As.reverse ++ [.ref b] := by
    have := congrArg List.reverse h
    rw [List.reverse_reverse, List.reverse_cons] at this
    exact this
  calc st = st.take k ++ st.drop k := (List.take_append_drop k st).symm
    _ = As.reverse ++ .ref b :: st.drop k := by rw [h1, List.append_assoc]; rfl
set_option maxHeartbeats 1000000 in
theorem mx_do_call {p : Program} {l : Launch} {e : Env} {R : Room} {s : State} {m : MethodId} {args : Array Value} {below : List Frame} {meth : Method} {c : Code} {H : Heap} {locs : List Loc} {cells slots pc : Nat} {Q : State → Prop} {ls : Array Slot} {st : List Value} {lv : mx_L} {D : va_G} {cI cZ : ClassId} {A : Nat → Prop} {g : mx_G} {h hf : mx_H} {v : Option Value} {i j : mx_I} {cl : Nat × Nat × Option (Option Nat) × Nat}
    (X : mx_X i.1.cls i.1.name i.2.1 i.2.2.1 i.2.2.2.1 p R s m args meth c D cI cZ A g) (hfr : i.2.2.2.2.1 ≤ R.frames) (hlc : i.2.2.2.2.2 ≤ R.locals) (hcall : mx_call i j pc cl) (hok : mx_cok cl st h = true)
    (hM : Met l j.1 (mx_ws j) (mx_rm j h hf) (mx_Pre D cI cZ (st.take cl.2.1).reverse h) (mx_Post D cI cZ h v hf) (hf.1 - h.1) (hf.2.1 - h.2.1) (mx_A h))
    (hR : mx_R D cI cZ A g h H) (hS : va_S A s.heap H locs) (hl : lv_has ls i.2.2.1 lv) (hcells : cells + (hf.1 - h.1) ≤ R.cells) (hslots : slots + (hf.2.1 - h.2.1) ≤ R.slots)
    (kk : ∀ (H1 : Heap) (locs1 : List Loc), mx_R D cI cZ A g hf H1 → va_S A s.heap H1 locs1 → W p l e R s m args below meth c H1 locs1 (cells + (hf.1 - h.1)) (slots + (hf.2.1 - h.2.1)) Q (F0 m (pc + 3) ls (v.toList ++ st.drop cl.2.1))) : W p l e R s m args below meth c H locs cells slots Q (F0 m pc ls st) := by
  obtain ⟨hx, hb, hml, hr, hown, hts, hlk, hname, hK, hN, hZ, hA⟩ := X
  obtain ⟨c1, c2, c3, c4, c5, c6, n, idx, c7, c8, kind⟩ := hcall
  have hAA : ∀ q, mx_A h q → A q := by
    rintro q (h1 | h1)
    · obtain ⟨x, hc⟩ := Option.isSome_iff_exists.mp h1
      exact (hR.2.2 q x hc).2
    · exact hA q (Nat.le_trans (by rw [← hR.1]; exact hS.1) h1)
  have hgood : GoodIn mx_tb (mx_ws j) := by
    intro w hw
    rcases List.mem_cons.mp hw with rfl | hw
    · exact ⟨c4, (mx_tb_good _ c4).2⟩
    · exact ⟨hw, (mx_tb_good w hw).2⟩
  have hgeq : h.2.2.2 = g := hR.2.1
  have hpre : ∀ U : State, U.heap = H → s.WarmedH U.vm → mx_Pre D cI cZ (st.take cl.2.1).reverse h (st.take cl.2.1).reverse.toArray U := by
    intro U hU hW
    refine ⟨rfl, ?_, va_K.moved hW.alike hK, mx_nst_warm hW hN, ?_⟩
    · rw [hU, hgeq]; exact hR.weak (fun _ _ => trivial)
    · rw [hU, hgeq]; exact ((hZ.keep hS).move hW.alike).less hAA
  unfold mx_cok at hok
  simp only [Bool.and_eq_true, decide_eq_true_eq] at hok
  obtain ⟨k1, k2, k3, k4⟩ := hok
  have hlen : ((st.take cl.2.1).reverse).length = cl.2.1 := by rw [List.length_reverse, List.length_take]; omega
  have kk' : ∀ (H1 : Heap) (locs1 : List Loc), mx_R D cI cZ A h.2.2.2 hf H1 → va_S A s.heap H1 locs1 → W p l e R s m args below meth c H1 locs1 (cells + (hf.1 - h.1)) (slots + (hf.2.1 - h.2.1)) Q (F0 m (pc + 3) ls (v.toList ++ st.drop cl.2.1)) := by
    rw [hgeq]; exact kk
  have hrm : (mx_rm j h hf).frames + 1 ≤ R.frames ∧ 8 + (j.2.2.1 + 11) + (mx_rm j h hf).locals ≤ R.locals := ⟨Nat.le_trans c1 hfr, Nat.le_trans c2 hlc⟩
  rcases kind with ⟨e1, ⟨ci, N, T, hci, hcl⟩, hd, hi, hs⟩ | ⟨e1, hd, hs⟩ | ⟨e1, e2, hd, hnm, hret, hi⟩
  · rw [hci] at k4
    obtain ⟨b, As, hav, hfs⟩ := mx_rcv_spec k4
    obtain ⟨fs, hget⟩ := hfs ci rfl
    have hst := mx_take_rev hav
    rw [hav] at hM hpre hlen
    have hn : As.length = n := by simp at hlen; omega
    rcases c8 with hlk | ⟨host, hlk⟩
    · exact mx_go (va_runV (C := j.1.cls) (As := As) (rest := st.drop cl.2.1) (b := b) ⟨hx, hb, hml, hown, hts⟩ hM ⟨callB_of n hts hgood rfl rfl rfl (hts _ c5) (hts _ hlk) ⟨c6.1, c6.2, c7⟩ hrm, hts _ hi, hts _ hs⟩ ⟨mx_Pre.blind, va_recv hK (mx_P1 (hR.2.2 b _ hget).1) (q0 := 0) hcl rfl, hpre⟩ rfl hn hl.1 hst (by show 2 * 0 + _ ≤ 8; omega) hd ⟨hcells, hslots⟩) hS hAA kk'
    · exact mx_go (va_runVN (C := j.1.cls) (As := As) (rest := st.drop cl.2.1) (b := b) ⟨hx, hb, hml, hown, hts⟩ hM ⟨va_cnB n hts hgood rfl rfl rfl (hN _ hlk) (hts _ c5) ⟨c6.1, c6.2, c7⟩ hrm, hts _ hi, hts _ hs⟩ ⟨mx_Pre.blind, va_recv hK (mx_P1 (hR.2.2 b _ hget).1) (q0 := 0) hcl rfl, hpre⟩ rfl hn hl.1 hst (by show 2 * 0 + _ ≤ 8; omega) hd ⟨hcells, hslots⟩) hS hAA kk'
  · have hst : st = ((st.take cl.2.1).reverse).reverse ++ st.drop cl.2.1 := by rw [List.reverse_reverse, List.take_append_drop]
    rcases c8 with hlk | ⟨host, hlk⟩
    · exact mx_go (va_runS (As := (st.take cl.2.1).reverse) (rest := st.drop cl.2.1) ⟨hx, hb, hml, hown, hts⟩ hM ⟨callB_of n hts hgood rfl rfl rfl (hts _ c5) (hts _ hlk) ⟨c6.1, c6.2, c7⟩ hrm, hts _ hs⟩ ⟨mx_Pre.blind, hpre⟩ rfl (by rw [hlen, e1]) hl.1 hst (by show 2 * 0 + _ ≤ 8; omega) hd ⟨hcells, hslots⟩) hS hAA kk'
    · exact mx_go (va_runSN (As := (st.take cl.2.1).reverse) (rest := st.drop cl.2.1) ⟨hx, hb, hml, hown, hts⟩ hM ⟨va_cnB n hts hgood rfl rfl rfl (hN _ hlk) (hts _ c5) ⟨c6.1, c6.2, c7⟩ hrm, hts _ hs, trivial⟩ ⟨mx_Pre.blind, hpre⟩ rfl (by rw [hlen, e1]) hl.1 hst (by show 2 * 0 + _ ≤ 8; omega) hd ⟨hcells, hslots⟩) hS hAA kk'
  · rw [e2] at k4
    obtain ⟨b, As, hav, -⟩ := mx_rcv_spec k4
    have hst := mx_take_rev hav
    rw [hav] at hM hpre hlen
    have hn : As.length = n := by simp at hlen; omega
    rcases c8 with hlk | ⟨host, hlk⟩
    · have cb := callB_of (ws := mx_ws j) (rm := mx_rm j h hf) n hts hgood rfl rfl rfl (hts _ c5) (hts _ hlk) ⟨c6.1, c6.2, c7⟩ hrm
      rw [hret] at cb
      exact mx_go (va_runI (As := As) (rest := st.drop cl.2.1) (b := b) ⟨hx, hb, hml, hown, hts⟩ hM ⟨cb, hnm, hts _ hi⟩ ⟨mx_Pre.blind, hpre⟩ rfl hn hl.1 hst (by show 2 * 0 + _ ≤ 8; omega) hd ⟨hcells, hslots⟩) hS hAA kk'
    · have cb := va_cnB (ws := mx_ws j) (rm := mx_rm j h hf) (R := R) n hts hgood rfl rfl rfl (hN _ hlk) (hts _ c5) ⟨c6.1, c6.2, c7⟩ hrm
      rw [hret] at cb
      exact mx_go (va_runIN (As := As) (rest := st.drop cl.2.1) (b := b) ⟨hx, hb, hml, hown, hts⟩ hM ⟨cb, hnm, hts _ hi⟩ ⟨mx_Pre.blind, hpre⟩ rfl hn hl.1 hst (by show 2 * 0 + _ ≤ 8; omega) hd ⟨hcells, hslots⟩) hS hAA kk'
