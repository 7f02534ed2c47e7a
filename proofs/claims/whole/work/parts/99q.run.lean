/-! THE LAW, from its entry (written by wip/gen99q.py) -/
theorem tx_84 : Cond.classLink "RowCodeLaw" 8 "RowCode" ∈ mx_tb := mx_tb_in (List.mem_of_getElem? (i := 84) (by decide +kernel)) (by decide +kernel)
theorem tx_85 : Cond.instantiable "RowCode" 8 ∈ mx_tb := mx_tb_in (List.mem_of_getElem? (i := 85) (by decide +kernel)) (by decide +kernel)
theorem tx_853 : Cond.classLink "RowCodeLaw" 19 "RowCodeModel" ∈ mx_tb := mx_tb_in (List.mem_of_getElem? (i := 853) (by decide +kernel)) (by decide +kernel)
theorem tx_854 : Cond.instantiable "RowCodeModel" 12 ∈ mx_tb := mx_tb_in (List.mem_of_getElem? (i := 854) (by decide +kernel)) (by decide +kernel)
theorem tx_1008 : Cond.arrayClass .long ∈ mx_tb := mx_tb_in (List.mem_of_getElem? (i := 1008) (by decide +kernel)) (by decide +kernel)
theorem xI_top {z : Nat} {NK : List Nat} {c : Nat × Nat} {g : mx_G} {h : mx_H} {S : xS} (hI : xI z NK c g h S) : ∀ q, h.1 ≤ q → mx_get h q = none := by
  obtain ⟨-, e, ar, f, -, -, -, -, -, -, h7⟩ := hI
  exact h7
theorem lawR_new {z : Nat} {S : xS} (h : OS S z S [] [] [] [] [] [] 0 (bI false) [] [] [] [] [] [] ([], [], [], 0, 0) ([], [], []) m00 0) : lawR z S [] 0 0 (fun _ => 0) (fun _ => 0) :=
  ⟨[], [], [], [], 0, false, [], [], [], [], [], [], ([], [], [], 0, 0), ([], [], []), m00, 0, h, rfl, rfl, rfl, rfl, rfl, fun w => absurd rfl w, fun w => absurd rfl w⟩
theorem lawM_new {z : Nat} {S : xS} (h : MO S z S 0 0 0 0 0 (fun _ => 0) (fun _ => 0) (fun _ => 0) (fun _ => 0) (fun _ => 0) (fun _ => 0) (fun _ => 0)) : lawM z S [] 0 0 0 (fun _ => 0) (fun _ => 0) :=
  ⟨0, _, _, _, _, _, h, fun i hi => absurd hi (Nat.not_lt_zero i)⟩
set_option maxHeartbeats 4000000 in
theorem law_run {p : Program} {e : Env} {s : State} {m : MethodId} {below : List Frame} {meth : Method} {c : Code} (l : Launch) (hfl : l.flags = pinnedFlags ++ [noTraceFlag]) {b L : Nat} {xs : Nat → Int32} (hL : L ≤ 1536) (C0 : lw_At p s m meth c b L xs) (hnm : meth.name = "law") (h0 : ∃ (cC : ClassId) (iS : Nat → Nat), u_Kn s RX0 TX0 0 cC iS) : W p l e room_1 s m #[Value.ref b] below meth c s.heap [] 0 0 (lw_Z below #[Value.ref b] s) (entryFrame m ([Value.ref b] : List Value).toArray 7) := by
  obtain ⟨D, cI, cZ, g, X, hg, hO, z1, z2, v1, v2⟩ := law_ctx C0 hnm h0
  obtain ⟨hx, hb, hml, hr, hown, hts, hlk, hname, hK, hN, hZz, hA⟩ := id X
  obtain ⟨-, -, -, -, -, -, hX, hbl, -, -⟩ := C0
  have hl := lv_entry ([.ref b] : List Value) (n := 7) (Nat.le_of_ble_eq_true rfl)
  obtain ⟨h1, S1, ⟨n1, ex1⟩, i1, hOS⟩ := new_row (z := s.heap.size) (sl := 0) hg
  have hLr := lawR_new hOS
  obtain ⟨k1, k2⟩ := xI_cap i1 (lawR_nums hLr)
  have k1 : h1.1 ≤ s.heap.size + 50 + 247 := k1
  have k2 : h1.2.1 ≤ 0 + 465 + 4980128 := k2
  have k3 : s.heap.size + 50 + 2 ≤ h1.1 := two_up i1 hOS.2.2.2.2.2.2.2.2.2.1 rfl
  obtain ⟨mm1, mm2, -⟩ := mx_exec_mono mx_M_mono _ _ _ _ _ _ _ ex1
  have mm1 : s.heap.size + 1 ≤ h1.1 := mm1
  have mm2 : 0 + 8 ≤ h1.2.1 := mm2
  have K : ∀ ls, lv_has ls 7 [(0, .ref b)] → W p l e room_1 s m #[Value.ref b] below meth c s.heap [] 0 0 (lw_Z below #[Value.ref b] s) (F0 m 0 ls []) := by
    clear hl
    intro ls hl
    refine (sn_new (own := "RowCodeLaw") (ynm := "law") (cc := code) (nL := 7) (ret := ret) (fr := 11) (lc := 414) (pc := 0) (ci := 9) (fs := [.null, .null, .null, .null, .null, .null, .null, .int 0]) tyX9 (by decide +kernel) rfl tbX9 tyX9_ok tx_84 tx_85 tw_66 rfl (by decide)).2 p l e room_1 s m #[Value.ref b] below meth c D cI cZ (lwA s) g _ (by decide) (by decide) X [(0, .ref b)] [] (hZ s.heap.size 0 g) _ rfl s.heap [] ls 0 0 ⟨rfl, rfl, fun a c h => by cases h⟩ va_S.rf hl (by show 0 + (s.heap.size + 1 - s.heap.size) ≤ 601024; omega) (by show 0 + (0 + 8 - 0) ≤ 7293034; omega) (fun H1 locs1 ls hR1 hS1 hl => ?_)
    show W p l e room_1 s m #[Value.ref b] below meth c H1 locs1 (0 + (s.heap.size + 1 - s.heap.size)) (0 + (0 + 8 - 0)) (lw_Z below #[Value.ref b] s) (F0 m 3 ls [.ref s.heap.size])
    refine lv_dup hx hb (by decide +kernel) rfl ?_
    refine mx_do_callF (i := i_law) (j := i_103) (cl := (103, 1, some none, 1)) (lv := [(0, .ref b)]) X (by decide) (by decide) (mk_callI (by decide) (by decide) ci_103 (Or.inl tx_86) (by decide +kernel)) rfl (mx_all l D cI cZ 103 i_103 rfl n1 [.ref s.heap.size] _ none h1 ex1 (Nat.le_of_ble_eq_true rfl)) hR1 hS1 hl (by show 0 + (s.heap.size + 1 - s.heap.size) + (h1.1 - (s.heap.size + 1)) ≤ 601024; omega) (by show 0 + (0 + 8 - 0) + (h1.2.1 - (0 + 8)) ≤ 7293034; omega) (fun H2 locs2 hR2 hS2 _ _ => ?_)
    have ec : 0 + (s.heap.size + 1 - s.heap.size) + (h1.1 - (s.heap.size + 1)) = h1.1 - s.heap.size := by omega
    have es : 0 + (0 + 8 - 0) + (h1.2.1 - (0 + 8)) = h1.2.1 := by omega
    show W p l e room_1 s m #[Value.ref b] below meth c H2 locs2 (0 + (s.heap.size + 1 - s.heap.size) + (h1.1 - (s.heap.size + 1))) (0 + (0 + 8 - 0) + (h1.2.1 - (0 + 8))) (lw_Z below #[Value.ref b] s) (F0 m 7 ls [.ref s.heap.size])
    rw [ec, es]
    refine lv_astore_n (k := 1) (lv' := [(1, .ref s.heap.size), (0, .ref b)]) hx hb (by decide +kernel) rfl hl (by decide) rfl (fun ls hl => ?_)
    have hz2 : H2.size = h1.1 := hR2.1
    obtain ⟨zM, hzM⟩ : ∃ zM, H2.size = zM + 52 := ⟨H2.size - 52, by omega⟩
    obtain ⟨h2, ⟨n2, ex2⟩, i2, hMO⟩ := new_mod (z := zM) (sl := 0) (g := g) (hg.up (by omega))
    obtain ⟨nn1, nn2⟩ := xI_nil i2
    have nn1 : h2.1 = zM + 60 := nn1
    have nn2 : h2.2.1 = 0 + 1753 := nn2
    have hKn := hK.1 10 _ rfl
    refine W.newcK (g := F0 m 8 ls []) hx hb hown (hts _ tx_853) (hts _ tx_854) (hts _ tw_78) rfl (show decode code 8 = .ok (.new 19, 3) by decide +kernel) (by show h1.1 - s.heap.size + 1 ≤ 601024; omega) (by show h1.2.1 + 12 ≤ 7293034; omega) hKn.2.1 hzM (fun H3 kC hkC e3 z3 o3 => ?_)
    show W p l e room_1 s m #[Value.ref b] below meth c H3 locs2 (h1.1 - s.heap.size + 1) (h1.2.1 + 12) (lw_Z below #[Value.ref b] s) (F0 m 11 ls [.ref (zM + 52)])
    have hR3 : mx_R D cI cZ (lwA s) g (H3.size, h1.2.1, h1.2.2.1, h1.2.2.2) H3 := hR2.move (fun q hq _ => o3 q (by omega))
    have hM3 : mx_R D cI cZ (lwA s) g (mx_push (hZ (zM + 52) 0 g) 12 (.inr (10, [.int 0, .int 0, .null, .null, .null, .null, .int 0, .int 0, .null, .null, .null, .int 0]))) H3 := mx_R.push (h := hZ (zM + 52) 0 g) (H := H2) ⟨hzM, rfl, fun a c h => by cases h⟩ ⟨_, rfl, (u_born tyX10 hts tbX10 hKn hkC e3 tyX10_ok).to (by decide)⟩ z3 o3 (by show s.heap.size ≤ zM + 52; omega)
    have hS3 := mx_S.push hS2 hzM z3 o3
    refine lv_dup hx hb (by decide +kernel) rfl ?_
    refine mx_do_callF (i := i_law) (j := i_116) (cl := (116, 1, some none, 1)) (lv := [(1, .ref s.heap.size), (0, .ref b)]) X (by decide) (by decide) (mk_callI (by decide) (by decide) ci_116 (Or.inl tx_855) (by decide +kernel)) rfl (mx_all l D cI cZ 116 i_116 rfl n2 [.ref (zM + 52)] _ none h2 ex2 (Nat.le_of_ble_eq_true rfl)) hM3 hS3 hl (by show h1.1 - s.heap.size + 1 + (h2.1 - (zM + 52 + 1)) ≤ 601024; omega) (by show h1.2.1 + 12 + (h2.2.1 - (0 + 12)) ≤ 7293034; omega) (fun H4 locs4 hM4 hS4 hk4 _ => ?_)
    have ec : h1.1 - s.heap.size + 1 + (h2.1 - (zM + 52 + 1)) = h1.1 - s.heap.size + 8 := by omega
    have es : h1.2.1 + 12 + (h2.2.1 - (0 + 12)) = h1.2.1 + 1753 := by omega
    show W p l e room_1 s m #[Value.ref b] below meth c H4 locs4 (h1.1 - s.heap.size + 1 + (h2.1 - (zM + 52 + 1))) (h1.2.1 + 12 + (h2.2.1 - (0 + 12))) (lw_Z below #[Value.ref b] s) (F0 m 15 ls [.ref (zM + 52)])
    rw [ec, es]
    have hz4 : H4.size = zM + 60 := by rw [hM4.1]; exact nn1
    have low : ∀ q, q < zM + 52 → mx_get h2 q = none := by
      intro q hq
      refine dm_exec _ _ _ _ _ _ _ ex2 q (by show q < zM + 52 + 1; omega) ?_
      rw [mx_get_push, if_neg (by show ¬ q = zM + 52; omega)]
      rfl
    have hk5 : ∀ q : Nat, q < zM + 52 → H4[q]? = H2[q]? := by
      intro q hq
      rw [hk4 q (by omega) (fun a => ?_)]
      · exact o3 q hq
      · rcases a with a | a
        · rw [mx_get_push, if_neg (by show ¬ q = zM + 52; omega)] at a
          cases a
        · have a : zM + 52 + 1 ≤ q := a
          omega
    have hR4 : mx_R D cI cZ (lwA s) g (H4.size, h1.2.1, h1.2.2.1, h1.2.2.2) H4 := hR2.move (fun q hq _ => hk5 q (by omega))
    clear hR3
    refine lv_astore_n (k := 2) (lv' := [(2, .ref (zM + 52)), (1, .ref s.heap.size), (0, .ref b)]) hx hb (by decide +kernel) rfl hl (by decide) rfl (fun ls hl => ?_)
    refine lv_iconst (n := 1) (v := 1) hx hb (by decide +kernel) (by decide) ?_
    refine va_newaK (atype := .long) (g := F0 m 17 ls [.int 1]) (N := 1) hx hb (hts _ tx_1008) rfl (show decode code 17 = .ok (.newarray .long, 2) by decide +kernel) rfl (by decide) (by decide) (by decide) (by show h1.1 - s.heap.size + 8 + 1 ≤ 601024; omega) (by show h1.2.1 + 1753 + 1 ≤ 7293034; omega) hz4 (fun H5 cJ e5 z5 o5 hAr _ => ?_)
    show W p l e room_1 s m #[Value.ref b] below meth c H5 locs4 (h1.1 - s.heap.size + 8 + 1) (h1.2.1 + 1753 + 1) (lw_Z below #[Value.ref b] s) (F0 m 19 ls [.ref (zM + 60)])
    refine lv_astore_n (k := 3) (lv' := [(3, .ref (zM + 60)), (2, .ref (zM + 52)), (1, .ref s.heap.size), (0, .ref b)]) hx hb (by decide +kernel) rfl hl (by decide) rfl (fun ls hl => ?_)
    refine lv_iconst (n := 0) (v := 0) hx hb (by decide +kernel) (by decide) ?_
    refine lv_istore (i := 4) (lv' := [(4, .int 0), (3, .ref (zM + 60)), (2, .ref (zM + 52)), (1, .ref s.heap.size), (0, .ref b)]) hx hb (by decide +kernel) hl (by decide) rfl (fun ls hl => ?_)
    have hS5 := mx_S.push hS4 hz4 z5 o5
    have hC : LK p l s m meth c D cI cZ cJ g b s.heap.size (zM + 60) := ⟨X, hg, hO, z1, z2, v1, v2, hAr, hfl, Nat.le_refl _, by omega⟩
    have hLH : LH s D cI cZ cJ g s.heap.size zM (zM + 60) 0 H5 locs4 (h1.1 - s.heap.size + 8 + 1) (h1.2.1 + 1753 + 1) S1 (S60 zM) 0 := by
      refine ⟨(H5.size, h1.2.1, h1.2.2.1, h1.2.2.2), (H5.size, h2.2.1, h2.2.2.1, h2.2.2.2), (s.heap.size + 50 + (H5.size - h1.1), 0 + 465), (zM + 60 + (H5.size - h2.1), 0 + 1753), hR4.move (fun q hq _ => o5 q (by omega)), hM4.move (fun q hq _ => o5 q (by omega)), hS5, ?_, ?_, fun q hq => ?_, ?_, ?_, e5, lawR_nums hLr, ?_, ?_⟩
      · have := xI_grow i1 (H5.size - h1.1)
        rwa [show h1.1 + (H5.size - h1.1) = H5.size by omega] at this
      · have := xI_grow i2 (H5.size - h2.1)
        rwa [show h2.1 + (H5.size - h2.1) = H5.size by omega] at this
      · have hq : ¬ mx_get h2 q = none := hq
        refine xI_top i1 q ?_
        rcases Nat.lt_or_ge q (zM + 52) with w | w
        · exact absurd (low q w) hq
        · omega
      · exact xI_top i1 (zM + 60) (by omega)
      · exact xI_top i2 (zM + 60) (by omega)
      · show h1.1 - s.heap.size + 8 + 1 + (s.heap.size + 50 + (H5.size - h1.1) + 247 - H5.size) ≤ 1000 + 0
        omega
      · show h1.2.1 + 1753 + 1 + (0 + 465 + 4980128 - h1.2.1) ≤ 5000000 + 6 * 0
        omega
    exact law_loop hC hX hbl hL (L + 1) 0 H5 locs4 _ _ S1 (S60 zM) 0 [] 0 0 0 (fun _ => 0) (fun _ => 0) ls (by omega) (by omega) hLH hLr (lawM_new hMO) (Nat.zero_le _) (lv_sub hl [4, 3, 2, 1, 0] rfl)
  rw [lg_entry_eq]
  exact K _ hl
