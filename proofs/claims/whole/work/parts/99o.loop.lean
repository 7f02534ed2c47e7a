/-! THE LAW: local, word, and the loop (written by wip/gen99o.py) -/
theorem cmp_self (v : Int64) : lg_cmp v v = 0 := by
  unfold lg_cmp
  rw [if_neg (show ¬ v > v from Int64.lt_irrefl), if_pos rfl]
theorem ends_iff {L k : Nat} (hL : L ≤ 1536) (hk : k ≤ 4000) : (nI L - 3 < nI k) ↔ L < k + 3 := by
  rcases Nat.lt_or_ge L 3 with w | w
  · have hneg : nI L - 3 < nI k := by
      have h0 : nI L - 3 < 0 := by
        have : L = 0 ∨ L = 1 ∨ L = 2 := by omega
        rcases this with rfl | rfl | rfl <;> decide
      have h1 : (0 : Int32) ≤ nI k := Int32.not_lt.mp (nI_pos (by omega))
      exact Int32.lt_of_lt_of_le h0 h1
    exact ⟨fun _ => by omega, fun _ => hneg⟩
  · have e : nI L - 3 = nI (L - 3) := nI_subn (b := 3) w
    rw [e, nI_ltI (by omega) (by omega)]
    omega
section LAWD
variable {p : Program} {l : Launch} {e : Env} {s : State} {m : MethodId} {below : List Frame} {meth : Method} {c : Code} {H : Heap} {locs : List Loc} {cells slots pc : Nat} {Q : State → Prop} {ls : Array Slot} {lv : mx_L} {D : va_G} {cI cZ cJ : ClassId} {g : mx_G} {z zM w b j L : Nat} {xs : Nat → Int32} {SR SM : xS} {x : Int64} {cc : List II} {th va fu : Int32} {lo wo : Nat → Int32}
set_option maxHeartbeats 1000000 in
theorem law_c7 (hC : LK p l s m meth c D cI cZ cJ g b z w) (hX : va_X b L xs s s.heap) (hbl : b < s.heap.size) (hL : L ≤ 1536) (hj : 3 * j + 3 ≤ L) (hLH : LH s D cI cZ cJ g z zM w j H locs cells slots SR SM x) (hr : lawR z SR cc va fu lo wo) (hm : lawM zM SM cc th va fu lo wo) (hc : cc.length ≤ 400) (hl : lv_has ls 7 (LVl b z zM w j)) (kk : NX p l e s m below meth c D cI cZ cJ g z zM w b j Q) : W p l e room_1 s m #[Value.ref b] below meth c H locs cells slots Q (F0 m 241 ls []) := by
  obtain ⟨⟨hx, hb, -⟩, -, -, -, -, -, -, hJ, -⟩ := id hC
  refine lv_aload_n (k := 1) hx hb (by decide +kernel) rfl (mx_lget_at hl rfl) ?_
  refine lw_ld (d := 1) (n := 1) hC hX hbl (LH_vs hLH).1 hl rfl rfl (by omega) hL (by decide) (by decide +kernel) (by decide +kernel) (by decide +kernel) (by decide +kernel) (by decide +kernel) ?_
  refine lv_aload_n (k := 3) hx hb (by decide +kernel) rfl (mx_lget_at hl rfl) ?_
  by_cases hh : m_hasL (xs (3 * j + 1)) = true
  · refine lw_A148 hC hr hh (by omega) hl (by decide +kernel) hLH (fun H1 locs1 c1 s1 hLH1 => ?_)
    show W p l e room_1 s m #[Value.ref b] below meth c H1 locs1 c1 s1 Q (F0 m 252 ls [.int 0])
    refine lv_istore (i := 5) (lv' := ((5, .int 0) :: LVl b z zM w j)) hx hb (by decide +kernel) hl (by decide) rfl (fun ls hl => ?_)
    refine lv_aload_n (k := 2) hx hb (by decide +kernel) rfl (mx_lget_at hl rfl) ?_
    refine lw_ld (d := 1) (n := 1) hC hX hbl (LH_vs hLH1).1 hl rfl rfl (by omega) hL (by decide) (by decide +kernel) (by decide +kernel) (by decide +kernel) (by decide +kernel) (by decide +kernel) ?_
    refine lw_M (cl := (143, 2, some (some 10), 2)) (j := i_143) (lv := ((5, .int 0) :: LVl b z zM w j)) hC rfl (mk_callV (by decide) (by decide) cv_143 (Or.inl tx_996) rfl (by decide +kernel)) rfl rfl ⟨_, rfl⟩ rfl rfl (lawM_52 hm) (by omega) hl (lq_local hm) hLH1 (fun v S2 H2 locs2 c2 s2 hP hLH2 => ?_)
    obtain ⟨rfl, hm1⟩ := hP
    rw [if_pos hh] at hm1
    show W p l e room_1 s m #[Value.ref b] below meth c H2 locs2 c2 s2 Q (F0 m 264 ls [.int (mLa lo (xs (3 * j + 1)))])
    refine lv_istore (i := 6) (lv' := ((6, .int (mLa lo (xs (3 * j + 1)))) :: (5, .int 0) :: LVl b z zM w j)) hx hb (by decide +kernel) hl (by decide) rfl (fun ls hl => ?_)
    refine lv_aload_n (k := 2) hx hb (by decide +kernel) rfl (mx_lget_at hl rfl) ?_
    refine lw_M (cl := (117, 1, some (some 10), 1)) (j := i_117) (lv := ((6, .int (mLa lo (xs (3 * j + 1)))) :: (5, .int 0) :: LVl b z zM w j)) hC rfl (mk_callV (by decide) (by decide) cv_117 (Or.inl tx_897) rfl (by decide +kernel)) rfl rfl ⟨_, rfl⟩ rfl rfl (lawM_52 hm1) (by omega) hl (lq_thrown hm1) hLH2 (fun v S3 H3 locs3 c3 s3 hP hLH3 => ?_)
    obtain ⟨rfl, hm2⟩ := hP
    show W p l e room_1 s m #[Value.ref b] below meth c H3 locs3 c3 s3 Q (F0 m 270 ls [.int 0])
    refine lv_iload (i := 5) hx hb (by decide +kernel) (mx_lget_at hl rfl) ?_
    refine lv_icmp_eq (off := 5) (tgt := 277) hx hb (by decide +kernel) (by decide) (fun _ => ?_) (fun h => absurd rfl h)
    refine lv_iload (i := 5) hx hb (by decide +kernel) (mx_lget_at hl rfl) ?_
    refine lv_if_ne (off := 15) (tgt := 294) hx hb (by decide +kernel) (by decide) (fun h => absurd rfl h) (fun _ => ?_)
    refine lv_aload_n (k := 3) hx hb (by decide +kernel) rfl (mx_lget_at hl rfl) ?_
    refine lv_iconst (n := 0) (v := 0) hx hb (by decide +kernel) (by decide) ?_
    refine W.lald (g := F0 m 284 ls [.int 0, .ref w]) (v := .long (mLa lo (xs (3 * j + 1))).toInt64) hx hb (LH_vs hLH3).2.1 (hJ 1 _) (fun q => by cases q) (by rw [arrV_size]; decide) (arrV_read _ _ (by decide)) rfl rfl (show decode code 284 = .ok (.laload, 1) by decide +kernel) ?_
    show W p l e room_1 s m #[Value.ref b] below meth c H3 locs3 c3 s3 Q (F0 m 285 ls [.long (mLa lo (xs (3 * j + 1))).toInt64])
    refine lv_iload (i := 6) hx hb (by decide +kernel) (mx_lget_at hl rfl) ?_
    refine lv_i2l hx hb (by decide +kernel) rfl ?_
    refine W.lcmp hx hb (by decide +kernel) ?_
    rw [cmp_self]
    refine lv_if_eq (off := 5) (tgt := 294) hx hb (by decide +kernel) (by decide) (fun _ => ?_) (fun h => absurd rfl h)
    refine lv_goto (off := 96) (tgt := 390) hx hb (by decide +kernel) (by decide) ?_
    exact kk H3 locs3 c3 s3 SR S3 _ cc _ va fu lo wo ls (LH_up hLH3) hr hm2 hc (lv_sub hl [2, 3, 4, 5, 6] rfl)
  · refine lw_B148 hC (lawR_0 hr) (by simpa using hh) (by omega) hl (by decide +kernel) hLH (fun H1 locs1 c1 s1 hLH1 => ?_)
    show W p l e room_1 s m #[Value.ref b] below meth c H1 locs1 c1 s1 Q (F0 m 252 ls [.int 1])
    refine lv_istore (i := 5) (lv' := ((5, .int 1) :: LVl b z zM w j)) hx hb (by decide +kernel) hl (by decide) rfl (fun ls hl => ?_)
    refine lv_aload_n (k := 2) hx hb (by decide +kernel) rfl (mx_lget_at hl rfl) ?_
    refine lw_ld (d := 1) (n := 1) hC hX hbl (LH_vs hLH1).1 hl rfl rfl (by omega) hL (by decide) (by decide +kernel) (by decide +kernel) (by decide +kernel) (by decide +kernel) (by decide +kernel) ?_
    refine lw_M (cl := (143, 2, some (some 10), 2)) (j := i_143) (lv := ((5, .int 1) :: LVl b z zM w j)) hC rfl (mk_callV (by decide) (by decide) cv_143 (Or.inl tx_996) rfl (by decide +kernel)) rfl rfl ⟨_, rfl⟩ rfl rfl (lawM_52 hm) (by omega) hl (lq_local hm) hLH1 (fun v S2 H2 locs2 c2 s2 hP hLH2 => ?_)
    obtain ⟨rfl, hm1⟩ := hP
    rw [if_neg hh] at hm1
    show W p l e room_1 s m #[Value.ref b] below meth c H2 locs2 c2 s2 Q (F0 m 264 ls [.int (mLa lo (xs (3 * j + 1)))])
    refine lv_istore (i := 6) (lv' := ((6, .int (mLa lo (xs (3 * j + 1)))) :: (5, .int 1) :: LVl b z zM w j)) hx hb (by decide +kernel) hl (by decide) rfl (fun ls hl => ?_)
    refine lv_aload_n (k := 2) hx hb (by decide +kernel) rfl (mx_lget_at hl rfl) ?_
    refine lw_M (cl := (117, 1, some (some 10), 1)) (j := i_117) (lv := ((6, .int (mLa lo (xs (3 * j + 1)))) :: (5, .int 1) :: LVl b z zM w j)) hC rfl (mk_callV (by decide) (by decide) cv_117 (Or.inl tx_897) rfl (by decide +kernel)) rfl rfl ⟨_, rfl⟩ rfl rfl (lawM_52 hm1) (by omega) hl (lq_thrown hm1) hLH2 (fun v S3 H3 locs3 c3 s3 hP hLH3 => ?_)
    obtain ⟨rfl, hm2⟩ := hP
    show W p l e room_1 s m #[Value.ref b] below meth c H3 locs3 c3 s3 Q (F0 m 270 ls [.int 1])
    refine lv_iload (i := 5) hx hb (by decide +kernel) (mx_lget_at hl rfl) ?_
    refine lv_icmp_eq (off := 5) (tgt := 277) hx hb (by decide +kernel) (by decide) (fun _ => ?_) (fun h => absurd rfl h)
    refine lv_iload (i := 5) hx hb (by decide +kernel) (mx_lget_at hl rfl) ?_
    refine lv_if_ne (off := 15) (tgt := 294) hx hb (by decide +kernel) (by decide) (fun _ => ?_) (fun h => absurd h (by decide))
    refine lv_goto (off := 96) (tgt := 390) hx hb (by decide +kernel) (by decide) ?_
    exact kk H3 locs3 c3 s3 SR S3 _ cc _ va fu lo wo ls (hLH3) hr hm2 hc (lv_sub hl [2, 3, 4, 5, 6] rfl)
set_option maxHeartbeats 1000000 in
theorem law_c9 (hC : LK p l s m meth c D cI cZ cJ g b z w) (hX : va_X b L xs s s.heap) (hbl : b < s.heap.size) (hL : L ≤ 1536) (hj : 3 * j + 3 ≤ L) (hLH : LH s D cI cZ cJ g z zM w j H locs cells slots SR SM x) (hr : lawR z SR cc va fu lo wo) (hm : lawM zM SM cc th va fu lo wo) (hc : cc.length ≤ 400) (hl : lv_has ls 7 (LVl b z zM w j)) (kk : NX p l e s m below meth c D cI cZ cJ g z zM w b j Q) : W p l e room_1 s m #[Value.ref b] below meth c H locs cells slots Q (F0 m 334 ls []) := by
  obtain ⟨⟨hx, hb, -⟩, -, -, -, -, -, -, hJ, -⟩ := id hC
  refine lv_aload_n (k := 1) hx hb (by decide +kernel) rfl (mx_lget_at hl rfl) ?_
  refine lw_ld (d := 1) (n := 1) hC hX hbl (LH_vs hLH).1 hl rfl rfl (by omega) hL (by decide) (by decide +kernel) (by decide +kernel) (by decide +kernel) (by decide +kernel) (by decide +kernel) ?_
  refine lv_aload_n (k := 3) hx hb (by decide +kernel) rfl (mx_lget_at hl rfl) ?_
  by_cases hh : m_hasW ((xs (3 * j + 1))).toInt64 = true
  · refine lw_A149 hC hr hh (by omega) hl (by decide +kernel) hLH (fun H1 locs1 c1 s1 hLH1 => ?_)
    show W p l e room_1 s m #[Value.ref b] below meth c H1 locs1 c1 s1 Q (F0 m 345 ls [.int 0])
    refine lv_istore (i := 5) (lv' := ((5, .int 0) :: LVl b z zM w j)) hx hb (by decide +kernel) hl (by decide) rfl (fun ls hl => ?_)
    refine lv_aload_n (k := 2) hx hb (by decide +kernel) rfl (mx_lget_at hl rfl) ?_
    refine lw_ld (d := 1) (n := 1) hC hX hbl (LH_vs hLH1).1 hl rfl rfl (by omega) hL (by decide) (by decide +kernel) (by decide +kernel) (by decide +kernel) (by decide +kernel) (by decide +kernel) ?_
    refine lw_M (cl := (145, 2, some (some 10), 2)) (j := i_145) (lv := ((5, .int 0) :: LVl b z zM w j)) hC rfl (mk_callV (by decide) (by decide) cv_145 (Or.inl tx_1004) rfl (by decide +kernel)) rfl rfl ⟨_, rfl⟩ rfl rfl (lawM_52 hm) (by omega) hl (lq_word hm) hLH1 (fun v S2 H2 locs2 c2 s2 hP hLH2 => ?_)
    obtain ⟨rfl, hm1⟩ := hP
    rw [if_pos hh] at hm1
    show W p l e room_1 s m #[Value.ref b] below meth c H2 locs2 c2 s2 Q (F0 m 357 ls [.int (mVa wo (xs (3 * j + 1)))])
    refine lv_istore (i := 6) (lv' := ((6, .int (mVa wo (xs (3 * j + 1)))) :: (5, .int 0) :: LVl b z zM w j)) hx hb (by decide +kernel) hl (by decide) rfl (fun ls hl => ?_)
    refine lv_aload_n (k := 2) hx hb (by decide +kernel) rfl (mx_lget_at hl rfl) ?_
    refine lw_M (cl := (117, 1, some (some 10), 1)) (j := i_117) (lv := ((6, .int (mVa wo (xs (3 * j + 1)))) :: (5, .int 0) :: LVl b z zM w j)) hC rfl (mk_callV (by decide) (by decide) cv_117 (Or.inl tx_897) rfl (by decide +kernel)) rfl rfl ⟨_, rfl⟩ rfl rfl (lawM_52 hm1) (by omega) hl (lq_thrown hm1) hLH2 (fun v S3 H3 locs3 c3 s3 hP hLH3 => ?_)
    obtain ⟨rfl, hm2⟩ := hP
    show W p l e room_1 s m #[Value.ref b] below meth c H3 locs3 c3 s3 Q (F0 m 363 ls [.int 0])
    refine lv_iload (i := 5) hx hb (by decide +kernel) (mx_lget_at hl rfl) ?_
    refine lv_icmp_eq (off := 5) (tgt := 370) hx hb (by decide +kernel) (by decide) (fun _ => ?_) (fun h => absurd rfl h)
    refine lv_iload (i := 5) hx hb (by decide +kernel) (mx_lget_at hl rfl) ?_
    refine lv_if_ne (off := 15) (tgt := 387) hx hb (by decide +kernel) (by decide) (fun h => absurd rfl h) (fun _ => ?_)
    refine lv_aload_n (k := 3) hx hb (by decide +kernel) rfl (mx_lget_at hl rfl) ?_
    refine lv_iconst (n := 0) (v := 0) hx hb (by decide +kernel) (by decide) ?_
    refine W.lald (g := F0 m 377 ls [.int 0, .ref w]) (v := .long (mVa wo (xs (3 * j + 1))).toInt64) hx hb (LH_vs hLH3).2.1 (hJ 1 _) (fun q => by cases q) (by rw [arrV_size]; decide) (arrV_read _ _ (by decide)) rfl rfl (show decode code 377 = .ok (.laload, 1) by decide +kernel) ?_
    show W p l e room_1 s m #[Value.ref b] below meth c H3 locs3 c3 s3 Q (F0 m 378 ls [.long (mVa wo (xs (3 * j + 1))).toInt64])
    refine lv_iload (i := 6) hx hb (by decide +kernel) (mx_lget_at hl rfl) ?_
    refine lv_i2l hx hb (by decide +kernel) rfl ?_
    refine W.lcmp hx hb (by decide +kernel) ?_
    rw [cmp_self]
    refine lv_if_eq (off := 5) (tgt := 387) hx hb (by decide +kernel) (by decide) (fun _ => ?_) (fun h => absurd rfl h)
    refine lv_goto (off := 3) (tgt := 390) hx hb (by decide +kernel) (by decide) ?_
    exact kk H3 locs3 c3 s3 SR S3 _ cc _ va fu lo wo ls (LH_up hLH3) hr hm2 hc (lv_sub hl [2, 3, 4, 5, 6] rfl)
  · refine lw_B149 hC (lawR_0 hr) (by simpa using hh) (by omega) hl (by decide +kernel) hLH (fun H1 locs1 c1 s1 hLH1 => ?_)
    show W p l e room_1 s m #[Value.ref b] below meth c H1 locs1 c1 s1 Q (F0 m 345 ls [.int 1])
    refine lv_istore (i := 5) (lv' := ((5, .int 1) :: LVl b z zM w j)) hx hb (by decide +kernel) hl (by decide) rfl (fun ls hl => ?_)
    refine lv_aload_n (k := 2) hx hb (by decide +kernel) rfl (mx_lget_at hl rfl) ?_
    refine lw_ld (d := 1) (n := 1) hC hX hbl (LH_vs hLH1).1 hl rfl rfl (by omega) hL (by decide) (by decide +kernel) (by decide +kernel) (by decide +kernel) (by decide +kernel) (by decide +kernel) ?_
    refine lw_M (cl := (145, 2, some (some 10), 2)) (j := i_145) (lv := ((5, .int 1) :: LVl b z zM w j)) hC rfl (mk_callV (by decide) (by decide) cv_145 (Or.inl tx_1004) rfl (by decide +kernel)) rfl rfl ⟨_, rfl⟩ rfl rfl (lawM_52 hm) (by omega) hl (lq_word hm) hLH1 (fun v S2 H2 locs2 c2 s2 hP hLH2 => ?_)
    obtain ⟨rfl, hm1⟩ := hP
    rw [if_neg hh] at hm1
    show W p l e room_1 s m #[Value.ref b] below meth c H2 locs2 c2 s2 Q (F0 m 357 ls [.int (mVa wo (xs (3 * j + 1)))])
    refine lv_istore (i := 6) (lv' := ((6, .int (mVa wo (xs (3 * j + 1)))) :: (5, .int 1) :: LVl b z zM w j)) hx hb (by decide +kernel) hl (by decide) rfl (fun ls hl => ?_)
    refine lv_aload_n (k := 2) hx hb (by decide +kernel) rfl (mx_lget_at hl rfl) ?_
    refine lw_M (cl := (117, 1, some (some 10), 1)) (j := i_117) (lv := ((6, .int (mVa wo (xs (3 * j + 1)))) :: (5, .int 1) :: LVl b z zM w j)) hC rfl (mk_callV (by decide) (by decide) cv_117 (Or.inl tx_897) rfl (by decide +kernel)) rfl rfl ⟨_, rfl⟩ rfl rfl (lawM_52 hm1) (by omega) hl (lq_thrown hm1) hLH2 (fun v S3 H3 locs3 c3 s3 hP hLH3 => ?_)
    obtain ⟨rfl, hm2⟩ := hP
    show W p l e room_1 s m #[Value.ref b] below meth c H3 locs3 c3 s3 Q (F0 m 363 ls [.int 1])
    refine lv_iload (i := 5) hx hb (by decide +kernel) (mx_lget_at hl rfl) ?_
    refine lv_icmp_eq (off := 5) (tgt := 370) hx hb (by decide +kernel) (by decide) (fun _ => ?_) (fun h => absurd rfl h)
    refine lv_iload (i := 5) hx hb (by decide +kernel) (mx_lget_at hl rfl) ?_
    refine lv_if_ne (off := 15) (tgt := 387) hx hb (by decide +kernel) (by decide) (fun _ => ?_) (fun h => absurd h (by decide))
    refine lv_goto (off := 3) (tgt := 390) hx hb (by decide +kernel) (by decide) ?_
    exact kk H3 locs3 c3 s3 SR S3 _ cc _ va fu lo wo ls (hLH3) hr hm2 hc (lv_sub hl [2, 3, 4, 5, 6] rfl)
set_option maxHeartbeats 1000000 in
theorem law_loop (hC : LK p l s m meth c D cI cZ cJ g b z w) (hX : va_X b L xs s s.heap) (hbl : b < s.heap.size) (hL : L ≤ 1536) : ∀ (r j : Nat) (H : Heap) (locs : List Loc) (cells slots : Nat) (SR SM : xS) (x : Int64) (cc : List II) (th va fu : Int32) (lo wo : Nat → Int32) (ls : Array Slot), L < 3 * (j + r) → 3 * j ≤ L + 3 → LH s D cI cZ cJ g z zM w j H locs cells slots SR SM x → lawR z SR cc va fu lo wo → lawM zM SM cc th va fu lo wo → cc.length ≤ 400 → lv_has ls 7 (LVl b z zM w j) → W p l e room_1 s m #[Value.ref b] below meth c H locs cells slots (lw_Z below #[Value.ref b] s) (F0 m 23 ls []) := by
  obtain ⟨⟨hx, hb, hml, hr, hown, hts, hlk, -⟩, -⟩ := id hC
  intro r
  induction r with
  | zero =>
    intro j H locs cells slots SR SM x cc th va fu lo wo ls h1 h2 hLH hr1 hm1 hc hl
    refine lv_iload (i := 4) hx hb (by decide +kernel) (mx_lget_at hl rfl) ?_
    refine lv_aload_n (k := 0) hx hb (by decide +kernel) rfl (mx_lget_at hl rfl) ?_
    refine va_slen hx hb hX hbl (Nat.not_le.mpr hbl) (LH_vs hLH).1 (by decide +kernel) ?_
    refine lv_iconst (n := 3) (v := 3) hx hb (by decide +kernel) (by decide) ?_
    refine lv_isub hx hb (by decide +kernel) ?_
    obtain ⟨vs, -, v3, v4⟩ := LH_vs hLH
    have ei := ends_iff (L := L) (k := 3 * j) hL (by omega)
    refine lv_icmp_gt (off := 367) (tgt := 396) hx hb (by decide +kernel) (by decide) (fun _ => ?_) (fun hgt => ?_)
    · refine va_forget (fun q hq => vs.2.2 q hq) ?_
      refine W.widen (k := 601024) (n := 7293034) (by omega) (by omega) ?_
      refine lv_iconst (n := 1) (v := 1) hx hb (by decide +kernel) (by decide) ?_
      exact lw_ret hx hb hr hlk (by decide +kernel)
    · exact absurd (ei.mpr (by omega)) hgt
  | succ r ih =>
    intro j H locs cells slots SR SM x cc th va fu lo wo ls h1 h2 hLH hr1 hm1 hc hl
    refine lv_iload (i := 4) hx hb (by decide +kernel) (mx_lget_at hl rfl) ?_
    refine lv_aload_n (k := 0) hx hb (by decide +kernel) rfl (mx_lget_at hl rfl) ?_
    refine va_slen hx hb hX hbl (Nat.not_le.mpr hbl) (LH_vs hLH).1 (by decide +kernel) ?_
    refine lv_iconst (n := 3) (v := 3) hx hb (by decide +kernel) (by decide) ?_
    refine lv_isub hx hb (by decide +kernel) ?_
    obtain ⟨vs, -, v3, v4⟩ := LH_vs hLH
    have ei := ends_iff (L := L) (k := 3 * j) hL (by omega)
    refine lv_icmp_gt (off := 367) (tgt := 396) hx hb (by decide +kernel) (by decide) (fun _ => ?_) (fun hgt => ?_)
    · refine va_forget (fun q hq => vs.2.2 q hq) ?_
      refine W.widen (k := 601024) (n := 7293034) (by omega) (by omega) ?_
      refine lv_iconst (n := 1) (v := 1) hx hb (by decide +kernel) (by decide) ?_
      exact lw_ret hx hb hr hlk (by decide +kernel)
    · have hj : 3 * j + 3 ≤ L := Nat.not_lt.mp (fun q => hgt (ei.mpr q))
      have kk : NX p l e s m below meth c D cI cZ cJ g z zM w b j (lw_Z below #[Value.ref b] s) := by
        intro H locs cells slots SR SM x cc th va fu lo wo ls hLH hr1 hm1 hc hl
        refine lv_iinc (i := 4) (n := 3) (k := 4) (x := nI (3 * j)) (v := nI (3 * (j + 1))) (lv' := [(4, .int (nI (3 * (j + 1)))), (0, .ref b), (1, .ref z), (2, .ref (zM + 52)), (3, .ref w)]) hx hb (by decide +kernel) hl rfl (by show nI (3 * j) + nI 3 = nI (3 * (j + 1)); rw [nI_add]; rfl) (by decide) rfl (fun ls hl => ?_)
        refine lv_goto (off := -370) (tgt := 23) hx hb (by decide +kernel) (by decide) ?_
        exact ih (j + 1) H locs cells slots SR SM x cc th va fu lo wo ls (by omega) (by omega) hLH hr1 hm1 hc (lv_sub hl [1, 2, 3, 4, 0] rfl)
      refine lv_aload_n (k := 0) hx hb (by decide +kernel) rfl (mx_lget_at hl rfl) ?_
      refine lv_iload (i := 4) hx hb (by decide +kernel) (mx_lget_at hl rfl) ?_
      refine va_sld hx hb hX hbl (Nat.not_le.mpr hbl) vs (nI_in (by omega) (by omega)) (by decide +kernel) ?_
      refine lv_bipush (n := 15) (v := 15) hx hb (by decide +kernel) (by decide) ?_
      refine lv_iand hx hb (by decide +kernel) ?_
      generalize xs (nI (3 * j)).toNatClampNeg &&& 15 = x0
      by_cases ho : x0.toInt < 0 ∨ 9 < x0.toInt
      · refine lv_tableOut (tgt := 390) hx hb (show decode code 39 = .ok (.tableswitch 351 0 9 #[53, 90, 101, 114, 139, 152, 165, 202, 258, 295], 53) by decide +kernel) ho (by decide) ?_
        exact kk H locs cells slots SR SM x cc th va fu lo wo ls (LH_up hLH) hr1 hm1 hc hl
      · have hd : x0.toInt = 0 ∨ x0.toInt = 1 ∨ x0.toInt = 2 ∨ x0.toInt = 3 ∨ x0.toInt = 4 ∨ x0.toInt = 5 ∨ x0.toInt = 6 ∨ x0.toInt = 7 ∨ x0.toInt = 8 ∨ x0.toInt = 9 := by omega
        rcases hd with hd | hd | hd | hd | hd | hd | hd | hd | hd | hd
        · refine lv_tableIn (off := 53) (tgt := 92) hx hb (show decode code 39 = .ok (.tableswitch 351 0 9 #[53, 90, 101, 114, 139, 152, 165, 202, 258, 295], 53) by decide +kernel) (by omega) (by omega) (by rw [hd]; rfl) (by decide) ?_
          exact law_c0 hC hX hbl hL hj hLH hr1 hm1 hc hl kk
        · refine lv_tableIn (off := 90) (tgt := 129) hx hb (show decode code 39 = .ok (.tableswitch 351 0 9 #[53, 90, 101, 114, 139, 152, 165, 202, 258, 295], 53) by decide +kernel) (by omega) (by omega) (by rw [hd]; rfl) (by decide) ?_
          exact law_c1 hC hX hbl hL hj hLH hr1 hm1 hc hl kk
        · refine lv_tableIn (off := 101) (tgt := 140) hx hb (show decode code 39 = .ok (.tableswitch 351 0 9 #[53, 90, 101, 114, 139, 152, 165, 202, 258, 295], 53) by decide +kernel) (by omega) (by omega) (by rw [hd]; rfl) (by decide) ?_
          exact law_c2 hC hX hbl hL hj hLH hr1 hm1 hc hl kk
        · refine lv_tableIn (off := 114) (tgt := 153) hx hb (show decode code 39 = .ok (.tableswitch 351 0 9 #[53, 90, 101, 114, 139, 152, 165, 202, 258, 295], 53) by decide +kernel) (by omega) (by omega) (by rw [hd]; rfl) (by decide) ?_
          exact law_c3 hC hX hbl hL hj hLH hr1 hm1 hc hl kk
        · refine lv_tableIn (off := 139) (tgt := 178) hx hb (show decode code 39 = .ok (.tableswitch 351 0 9 #[53, 90, 101, 114, 139, 152, 165, 202, 258, 295], 53) by decide +kernel) (by omega) (by omega) (by rw [hd]; rfl) (by decide) ?_
          exact law_c4 hC hX hbl hL hj hLH hr1 hm1 hc hl kk
        · refine lv_tableIn (off := 152) (tgt := 191) hx hb (show decode code 39 = .ok (.tableswitch 351 0 9 #[53, 90, 101, 114, 139, 152, 165, 202, 258, 295], 53) by decide +kernel) (by omega) (by omega) (by rw [hd]; rfl) (by decide) ?_
          exact law_c5 hC hX hbl hL hj hLH hr1 hm1 hc hl kk
        · refine lv_tableIn (off := 165) (tgt := 204) hx hb (show decode code 39 = .ok (.tableswitch 351 0 9 #[53, 90, 101, 114, 139, 152, 165, 202, 258, 295], 53) by decide +kernel) (by omega) (by omega) (by rw [hd]; rfl) (by decide) ?_
          exact law_c6 hC hX hbl hL hj hLH hr1 hm1 hc hl kk
        · refine lv_tableIn (off := 202) (tgt := 241) hx hb (show decode code 39 = .ok (.tableswitch 351 0 9 #[53, 90, 101, 114, 139, 152, 165, 202, 258, 295], 53) by decide +kernel) (by omega) (by omega) (by rw [hd]; rfl) (by decide) ?_
          exact law_c7 hC hX hbl hL hj hLH hr1 hm1 hc hl kk
        · refine lv_tableIn (off := 258) (tgt := 297) hx hb (show decode code 39 = .ok (.tableswitch 351 0 9 #[53, 90, 101, 114, 139, 152, 165, 202, 258, 295], 53) by decide +kernel) (by omega) (by omega) (by rw [hd]; rfl) (by decide) ?_
          exact law_c8 hC hX hbl hL hj hLH hr1 hm1 hc hl kk
        · refine lv_tableIn (off := 295) (tgt := 334) hx hb (show decode code 39 = .ok (.tableswitch 351 0 9 #[53, 90, 101, 114, 139, 152, 165, 202, 258, 295], 53) by decide +kernel) (by omega) (by omega) (by rw [hd]; rfl) (by decide) ?_
          exact law_c9 hC hX hbl hL hj hLH hr1 hm1 hc hl kk
end LAWD
