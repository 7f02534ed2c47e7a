/-! THE TRANSLATOR'S LOOP over words is the one over instructions; and what its methods ask for is there -/
theorem tx_one_dl {dl dl' : Int32 → Int32} {t : TX} {i : II} (h : i.1 = 13 → dl i.2 = dl' i.2) : tx_one dl t i = tx_one dl' t i := by
  obtain ⟨a, k⟩ := i
  by_cases h13 : a = 13
  · subst h13
    have h : dl k = dl' k := h rfl
    rw [txo_13, txo_13, h]
  · unfold tx_one
    simp only [if_neg h13]
theorem q0_out {c : List II} {i : Nat} (h : c.length ≤ i) : q0 c i = (-1, -1) := by
  unfold q0
  rw [List.getD_eq_getElem?_getD, List.getElem?_eq_none h]
  rfl
theorem q0_drop (c : List II) (i : Nat) : q0 (c.drop i) 0 = q0 c i := by
  unfold q0
  rw [List.getD_eq_getElem?_getD, List.getD_eq_getElem?_getD, List.getElem?_drop, Nat.add_zero]
theorem up_len (c : List II) : (up c).1.length = c.length := by simp [up]
theorem up_at1 {c : List II} {i : Nat} (hi : i + 1 < 2 ^ 31) : nAt (up c).1 (nI i + 1) = (q0 c (i + 1)).1 ∧ nAt (up c).2 (nI i + 1) = (q0 c (i + 1)).2 := by
  rw [nI_1]
  exact up_at hi
theorem tr_nx_up {c : List II} {dl : Int32 → Int32} {i : Nat} (hi : i + 1 < 2 ^ 31) (t : TX) : tr_nx (up c).1 (up c).2 dl i (encT t) =
    if (q0 c i).1 = 8 ∧ t_cond (q0 c (i + 1)).1 = true then (i + 1 + 1, encT (tx_cgo t (q0 c i).2 (q0 c (i + 1)).1 (q0 c (i + 1)).2))
    else if (q0 c i).1 = 18 then (i + 1 + 1, encT (tx_case t (q0 c i).2 (q0 c (i + 1)).2))
    else (i + 1, encT (tx_one dl t (q0 c i))) := by
  obtain ⟨e1, e2⟩ := up_at (c := c) (i := i) (by omega)
  obtain ⟨e3, e4⟩ := up_at1 (c := c) (i := i) hi
  unfold tr_nx
  rw [e1, e2, e3, e4, e_cgo, e_case]
  have e5 : ((q0 c i).1, (q0 c i).2) = q0 c i := rfl
  rw [e5, e_one]
theorem tr_loop_tx {c : List II} {dl dl' : Int32 → Int32} (hdl : ∀ k, (13, k) ∈ c → dl k = dl' k) (hc : c.length < 2 ^ 28) : ∀ (d i : Nat) (t : TX), c.length < i + d → i ≤ c.length + 1 → tr_loop (up c).1 (up c).2 dl d i (encT t) = encT (tx_code dl' (c.drop i) t) := by
  intro d
  induction d with
  | zero =>
    intro i t hi _
    rw [List.drop_eq_nil_of_le (by omega)]
    simp only [tx_code]
    rfl
  | succ d ih =>
    intro i t hi hi2
    rw [tr_loop, up_len]
    rcases Nat.lt_or_ge i c.length with hlt | hge
    · rw [if_pos (nI_lt hlt (by omega)), tr_nx_up (by omega)]
      have hx : q0 c i ∈ c := by
        have : q0 c i ∈ c.drop i := by rw [drop_q0 hlt]; exact List.mem_cons_self ..
        exact List.mem_of_mem_drop this
      rw [drop_q0 hlt]
      by_cases c1 : (q0 c i).1 = 8 ∧ t_cond (q0 c (i + 1)).1 = true
      · rw [if_pos c1]
        have hlt2 : i + 1 < c.length := by
          rcases Nat.lt_or_ge (i + 1) c.length with w | w
          · exact w
          · rw [q0_out w] at c1; exact absurd c1.2 (by decide)
        rw [drop_q0 hlt2, tx_code, if_pos c1]
        exact ih (i + 1 + 1) _ (by omega) (by omega)
      rw [if_neg c1]
      by_cases c2 : (q0 c i).1 = 18
      · rw [if_pos c2]
        rcases Nat.lt_or_ge (i + 1) c.length with hlt2 | hge2
        · rw [drop_q0 hlt2, tx_code, if_neg c1, if_pos c2]
          exact ih (i + 1 + 1) _ (by omega) (by omega)
        · have h0 := ih (i + 1 + 1) (tx_case t (q0 c i).2 (q0 c (i + 1)).2) (by omega) (by omega)
          rw [List.drop_eq_nil_of_le (by omega : c.length ≤ i + 1 + 1)] at h0
          rw [List.drop_eq_nil_of_le (by omega : c.length ≤ i + 1)]
          simp only [tx_code, if_pos c2] at h0 ⊢
          rw [h0, q0_out hge2]
      · rw [if_neg c2, tx_simple (by rw [q0_drop]; exact c1) c2, ← tx_one_dl (dl := dl) (fun h => hdl _ (by
          have e : (13, (q0 c i).2) = q0 c i := by rw [← h]
          rw [e]; exact hx))]
        exact ih (i + 1) _ (by omega) (by omega)
    · rw [if_neg (nI_nlt hge (by omega)), List.drop_eq_nil_of_le hge]
      simp only [tx_code]
theorem one_td {C : CP} {t : TX} {d B : Nat} {a k : Int32} {s1 : CK} (h60 : ∀ k, C.hh k ≤ 60) (hTL : TL t d) (h : ck C (some (d, B, false)) (a, k) = some s1) (h18 : ¬ a = 18) : TD (tx_one (fun k => nI (C.hh k)) t (a, k)) s1 ∧ cs (tx_one (fun k => nI (C.hh k)) t (a, k)) ≤ cs t + 20 := by
  have hd := hTL.2
  have w := hTL.1
  rcases ck_inv h with ⟨rfl, c0, rfl⟩ | ⟨rfl, c0, rfl⟩ | ⟨rfl, c0, rfl⟩ | ⟨rfl, c0, rfl⟩ | ⟨rfl, c0, rfl⟩ | ⟨rfl, c0, rfl⟩ | ⟨rfl, c0, rfl⟩ | ⟨rfl, c0, rfl⟩ | ⟨rfl, c0, rfl⟩ | ⟨rfl, c0, rfl⟩ | ⟨rfl, c0, rfl⟩ | ⟨rfl, c0, rfl⟩ | ⟨rfl, c0, rfl⟩ | ⟨rfl, c0, rfl⟩ | ⟨rfl, c0, rfl⟩ | ⟨rfl, rfl⟩ | ⟨rfl, c0, rfl⟩ | ⟨rfl, rfl⟩ | ⟨rfl, c0, rfl⟩ | ⟨rfl, c0, rfl⟩ | ⟨rfl, c0, rfl⟩
  · rw [txo_0]
    exact ⟨td_of (tl_lay (d := d) (de := k) hTL (by omega) (kd := 2) (.inl rfl)) (by omega), Nat.le_trans (cs_lay 2 k) (by omega)⟩
  · rw [txo_1]
    exact ⟨td_of (tl_lay (d := d) (de := k) hTL (by omega) (kd := 3) (.inr rfl)) (by omega), Nat.le_trans (cs_lay 3 k) (by omega)⟩
  · obtain ⟨d', rfl⟩ : ∃ d', d = d' + 1 := ⟨d - 1, by omega⟩
    rw [txo_2]
    exact ⟨td_of (tl_store hTL k) (by omega), Nat.le_trans (cs_store hTL k) (by omega)⟩
  · obtain ⟨d', rfl⟩ : ∃ d', d = d' + 1 := ⟨d - 1, by omega⟩
    rw [txo_3]
    exact ⟨td_of (tl_top hTL 8) (by omega), Nat.le_trans (cs_top hTL 8) (by omega)⟩
  · obtain ⟨d', rfl⟩ : ∃ d', d = d' + 2 := ⟨d - 2, by omega⟩
    rw [txo_4]
    exact ⟨td_of (tl_drop (c := 2) (tl_write (tl_meet hTL false) 9 0)) (by omega), by have h1 := cs_meet hTL false; have h2 := cs_drop (t := tx_write (tx_meet t false).1 9 0) 2; rw [cs_write] at h2; omega⟩
  · obtain ⟨d', rfl⟩ : ∃ d', d = d' + 1 := ⟨d - 1, by omega⟩
    rw [txo_5]
    exact ⟨td_of (tl_top hTL 10) (by omega), Nat.le_trans (cs_top hTL 10) (by omega)⟩
  · obtain ⟨d', rfl⟩ : ∃ d', d = d' + 1 := ⟨d - 1, by omega⟩
    rw [txo_6]
    exact ⟨td_of (tl_top hTL 11) (by omega), Nat.le_trans (cs_top hTL 11) (by omega)⟩
  · obtain ⟨d', rfl⟩ : ∃ d', d = d' + 2 := ⟨d - 2, by omega⟩
    rw [txo_7]
    exact ⟨td_of (tl_leave (a_commutes k) hTL 12 k) (by omega), by have h1 := cs_meet hTL (a_commutes k); have h2 := cs_leave (t := tx_write (tx_meet t (a_commutes k)).1 12 k); rw [cs_write] at h2; omega⟩
  · obtain ⟨d', rfl⟩ : ∃ d', d = d' + 2 := ⟨d - 2, by omega⟩
    rw [txo_8]
    exact ⟨td_of (tl_leave true hTL 13 (if (tx_meet t true).2 = true then a_mir k else k)) (by omega), by have h1 := cs_meet hTL true; have h2 := cs_leave (t := tx_write (tx_meet t true).1 13 (if (tx_meet t true).2 = true then a_mir k else k)); rw [cs_write] at h2; omega⟩
  · obtain ⟨d', rfl⟩ : ∃ d', d = d' + 2 := ⟨d - 2, by omega⟩
    rw [txo_9]
    exact ⟨td_of (tl_keep hTL k) (by omega), Nat.le_trans (cs_keep hTL k) (by omega)⟩
  · rw [txo_10]
    refine ⟨⟨(tl_row (d := 0) (tx_write (tx_settle (t.2.1.length - 0) 0 t) 20 k) (by omega)).1, .inl ⟨rfl, (tl_row (d := 0) (tx_write (tx_settle (t.2.1.length - 0) 0 t) 20 k) (by omega)).2⟩⟩, ?_⟩
    have h1 := cs_settle (t.2.1.length - 0) 0 t w (by omega)
    have h2 := cs_row (t := tx_write (tx_settle (t.2.1.length - 0) 0 t) 20 k) 0
    rw [cs_write] at h2
    omega
  · obtain ⟨d', rfl⟩ : ∃ d', d = d' + 1 := ⟨d - 1, by omega⟩
    rw [txo_11]
    exact ⟨td_of (tl_goIf hTL 21 k) (by omega), Nat.le_trans (cs_goIf hTL 21 k) (by omega)⟩
  · obtain ⟨d', rfl⟩ : ∃ d', d = d' + 1 := ⟨d - 1, by omega⟩
    rw [txo_12]
    exact ⟨td_of (tl_goIf hTL 22 k) (by omega), Nat.le_trans (cs_goIf hTL 22 k) (by omega)⟩
  · rw [txo_13]
    have hT := tl_row (tx_write (tx_settle (t.2.1.length - 0) 0 t) 0 k) (h60 k)
    refine ⟨td_of hT c0.1.symm, ?_⟩
    have h1 := cs_settle (t.2.1.length - 0) 0 t w (by omega)
    have h2 := cs_row (t := tx_write (tx_settle (t.2.1.length - 0) 0 t) 0 k) (nI (C.hh k))
    rw [cs_write] at h2
    omega
  · obtain ⟨d', rfl⟩ : ∃ d', d = d' + 1 := ⟨d - 1, by omega⟩
    rw [txo_14]
    exact ⟨td_of (tl_drop (c := 1) hTL) (by omega), Nat.le_trans (cs_drop 1) (by omega)⟩
  · rw [txo_15]
    exact ⟨td_of (tl_write hTL 17 0) (by omega), by rw [cs_write]; omega⟩
  · obtain ⟨d', rfl⟩ : ∃ d', d = d' + 1 := ⟨d - 1, by omega⟩
    rw [txo_16]
    refine ⟨⟨(tl_row (d := 0) (tx_write (tx_toA t (nI t.2.1.length - 1)) 18 0) (by omega)).1, .inl ⟨rfl, (tl_row (d := 0) (tx_write (tx_toA t (nI t.2.1.length - 1)) 18 0) (by omega)).2⟩⟩, ?_⟩
    have e1 : nI t.2.1.length - 1 = nI d' := by rw [hd]; exact nI_pred d'
    have h1 := (cs_toA w (p := d') (by omega)).1
    have h2 := cs_row (t := tx_write (tx_toA t (nI t.2.1.length - 1)) 18 0) 0
    rw [cs_write, e1] at h2
    rw [e1]
    omega
  · rw [txo_17]
    refine ⟨⟨(tl_row (d := 0) (tx_write t 19 0) (by omega)).1, .inl ⟨rfl, (tl_row (d := 0) (tx_write t 19 0) (by omega)).2⟩⟩, ?_⟩
    have h2 := cs_row (t := tx_write t 19 0) 0
    rw [cs_write] at h2
    omega
  · exact absurd rfl h18
  · obtain ⟨d', rfl⟩ : ∃ d', d = d' + 2 := ⟨d - 2, by omega⟩
    rw [txo_19]
    exact ⟨td_of (tl_leave false hTL 15 0) (by omega), by have h1 := cs_meet hTL false; have h2 := cs_leave (t := tx_write (tx_meet t false).1 15 0); rw [cs_write] at h2; omega⟩
  · obtain ⟨d', rfl⟩ : ∃ d', d = d' + 3 := ⟨d - 3, by omega⟩
    rw [txo_20]
    exact ⟨td_of (tl_byte hTL) (by omega), Nat.le_trans (cs_byte hTL) (by omega)⟩
theorem ck_len {C : CP} {d B : Nat} {a k : Int32} {s1 : CK} (h : ck C (some (d, B, false)) (a, k) = some s1) : (a = 2 ∨ a = 11 ∨ a = 12 ∨ a = 18 → 1 ≤ d) ∧ (a = 8 → 2 ≤ d) ∧ (a = 20 → 3 ≤ d) := by
  refine ⟨?_, ?_, ?_⟩
  · rintro (rfl | rfl | rfl | rfl)
    · rw [ck_2] at h
      by_cases c : 1 ≤ d
      · exact c
      · rw [if_neg c] at h; cases h
    · rw [ck_11] at h
      by_cases c : C.hh k + 1 = d ∧ C.rho k < B
      · omega
      · rw [if_neg c] at h; cases h
    · rw [ck_12] at h
      by_cases c : C.hh k + 1 = d ∧ C.rho k < B
      · omega
      · rw [if_neg c] at h; cases h
    · rw [ck_18] at h
      by_cases c : 1 ≤ d
      · exact c
      · rw [if_neg c] at h; cases h
  · rintro rfl
    rw [ck_8] at h
    by_cases c : 2 ≤ d
    · exact c
    · rw [if_neg c] at h; cases h
  · rintro rfl
    rw [ck_20] at h
    by_cases c : 3 ≤ d
    · exact c
    · rw [if_neg c] at h; cases h
theorem tr_pre_ok {C : CP} {c : List II} {dl : Int32 → Int32} (h60 : ∀ k, C.hh k ≤ 60) (hdl : ∀ k, (13, k) ∈ c → dl k = nI (C.hh k)) (hdl2 : ∀ k, (dl k).toNatClampNeg ≤ 131072) (hc : c.length ≤ 3000) :
    ∀ (d i : Nat) (t : TX) (s : CK), i ≤ c.length + 1 → TD t s → fck C (c.drop i) s = some none → cs t ≤ 20 * i → tr_pre (up c).1 (up c).2 dl d i (encT t) := by
  intro d
  induction d with
  | zero => intro i t s _ _ _ _; trivial
  | succ d ih =>
    intro i t s hi hT hck hcs hlt0
    rw [up_len] at hlt0
    have hlt : i < c.length := (nI_ltI (by omega) (by omega)).mp hlt0
    have hx : q0 c i ∈ c := by
      have : q0 c i ∈ c.drop i := by rw [drop_q0 hlt]; exact List.mem_cons_self ..
      exact List.mem_of_mem_drop this
    obtain ⟨e1, e2⟩ := up_at (c := c) (i := i) (by omega)
    rw [drop_q0 hlt, fck] at hck
    have em : (t.1.flatMap enc).length ≤ 2 * t.1.length := (enc_len t.1).2
    have hcl : t.1.length ≤ cs t := by unfold cs; omega
    have w := hT.1
    have w60 := w.d60
    have hdl1 : tx_one dl t (q0 c i) = tx_one (fun k => nI (C.hh k)) t (q0 c i) := tx_one_dl (fun h => hdl _ (by
      have e : (13, (q0 c i).2) = q0 c i := by rw [← h]
      rw [e]; exact hx))
    generalize hx0 : q0 c i = x at *
    obtain ⟨a, k⟩ := x
    cases hs1 : ck C s (a, k) with
    | none => rw [hs1] at hck; cases hck
    | some s1 =>
    rw [hs1] at hck
    have hck : fck C (c.drop (i + 1)) s1 = some none := hck
    have hq : q0 (c.drop (i + 1)) 0 = q0 c (i + 1) := q0_drop c (i + 1)
    have hnd : tr_need a (encT t) := by
      rcases hT.2 with ⟨rfl, h0⟩ | ⟨B, rfl⟩
      · by_cases h13 : a = 13
        · subst h13
          exact ⟨by show (t.1.flatMap enc).length + 6 * t.2.1.length + 60 ≤ 131072; omega, w.len, fun h => absurd h (by decide), fun h => absurd h (by decide), fun h => absurd h (by decide)⟩
        · rw [ck_n h13] at hs1; cases hs1
      · obtain ⟨l1, l2, l3⟩ := ck_len hs1
        exact ⟨by show (t.1.flatMap enc).length + 6 * t.2.1.length + 60 ≤ 131072; omega, w.len, l1, l2, l3⟩
    refine ⟨by rw [e1]; exact hnd, hdl2 _, ?_⟩
    rw [tr_nx_up (by omega), hx0, hdl1]
    by_cases c1 : ((a, k) : II).1 = 8 ∧ t_cond (q0 c (i + 1)).1 = true
    · rw [if_pos c1]
      have hlt2 : i + 1 < c.length := by
        rcases Nat.lt_or_ge (i + 1) c.length with w | w
        · exact w
        · rw [q0_out w] at c1; exact absurd c1.2 (by decide)
      have ha : a = 8 := c1.1
      subst ha
      rw [drop_q0 hlt2, fck] at hck
      generalize q0 c (i + 1) = y at *
      obtain ⟨b, l⟩ := y
      have hb : b = 11 ∨ b = 12 := by simpa [t_cond] using c1.2
      rcases hT.2 with ⟨rfl, h0⟩ | ⟨B, rfl⟩
      · rw [ck_n (by decide)] at hs1; cases hs1
      have hl2 := (ck_len hs1).2.1 rfl
      obtain ⟨d', hd'⟩ : ∃ d', t.2.1.length = d' + 2 := ⟨t.2.1.length - 2, by omega⟩
      rw [hd', ck_8, if_pos (by omega)] at hs1
      cases hs1
      have e2 : ck C (some (d' + 2 - 1, B, false)) (b, l) = (if C.hh l + 1 = d' + 2 - 1 ∧ C.rho l < B then some (some (d' + 2 - 1 - 1, B, false)) else none) := by rcases hb with rfl | rfl <;> rfl
      rw [e2] at hck
      by_cases c2 : C.hh l + 1 = d' + 2 - 1 ∧ C.rho l < B
      · rw [if_pos c2] at hck
        have hck : fck C (c.drop (i + 1 + 1)) (some (d' + 2 - 1 - 1, B, false)) = some none := hck
        have hcg := cs_cgo (d := d') ⟨w, hd'⟩ k b l
        exact ih (i + 1 + 1) _ _ (by omega) (td_of (tl_cgo (d := d') ⟨w, hd'⟩ k b l) (by omega)) hck (by show cs (tx_cgo t k b l) ≤ _; omega)
      · rw [if_neg c2] at hck; cases hck
    rw [if_neg c1]
    by_cases h18 : ((a, k) : II).1 = 18
    · rw [if_pos h18]
      have ha : a = 18 := h18
      subst ha
      rcases hT.2 with ⟨rfl, h0⟩ | ⟨B, rfl⟩
      · rw [ck_n (by decide)] at hs1; cases hs1
      have hl1 := (ck_len hs1).1 (by decide)
      obtain ⟨d', hd'⟩ : ∃ d', t.2.1.length = d' + 1 := ⟨t.2.1.length - 1, by omega⟩
      rw [hd', ck_18, if_pos (by omega)] at hs1
      cases hs1
      have hlt2 : i + 1 < c.length := by
        rcases Nat.lt_or_ge (i + 1) c.length with w | w
        · exact w
        · rw [List.drop_eq_nil_of_le w] at hck; cases hck
      rw [drop_q0 hlt2, fck] at hck
      generalize q0 c (i + 1) = y at *
      obtain ⟨b, l⟩ := y
      by_cases hb : b = 12
      · subst hb
        have e2 : ck C (some (d' + 1, B, true)) (12, l) = (if (12 : Int32) = 12 ∧ C.hh l + 1 = d' + 1 ∧ C.rho l < B then some (some (d' + 1, B, false)) else none) := rfl
        rw [e2] at hck
        by_cases c2 : (12 : Int32) = 12 ∧ C.hh l + 1 = d' + 1 ∧ C.rho l < B
        · rw [if_pos c2] at hck
          have hck : fck C (c.drop (i + 1 + 1)) (some (d' + 1, B, false)) = some none := hck
          have hcg := cs_case (d := d') ⟨w, hd'⟩ k l
          exact ih (i + 1 + 1) _ _ (by omega) (td_of (tl_case (d := d') ⟨w, hd'⟩ k l) (by omega)) hck (by show cs (tx_case t k l) ≤ _; omega)
        · rw [if_neg c2] at hck; cases hck
      · rw [ck_p hb] at hck; cases hck
    · rw [if_neg h18]
      rcases hT.2 with ⟨rfl, h0⟩ | ⟨B, rfl⟩
      · by_cases h13 : a = 13
        · subst h13
          cases hs1
          have hTL := tl_row (tx_write (tx_settle (t.2.1.length - 0) 0 t) 0 k) (h60 k)
          have h1 := cs_settle (t.2.1.length - 0) 0 t w (by omega)
          have h2 := cs_row (t := tx_write (tx_settle (t.2.1.length - 0) 0 t) 0 k) (nI (C.hh k))
          rw [cs_write] at h2
          refine ih (i + 1) _ _ (by omega) ?_ hck ?_
          · show TD (tx_one (fun k => nI (C.hh k)) t (13, k)) _
            rw [txo_13]
            exact td_of hTL rfl
          · show cs (tx_one (fun k => nI (C.hh k)) t (13, k)) ≤ _
            rw [txo_13]
            omega
        · rw [ck_n h13] at hs1; cases hs1
      · obtain ⟨a1, a2⟩ := one_td h60 ⟨w, rfl⟩ hs1 h18
        exact ih (i + 1) _ _ (by omega) a1 hck (by show cs (tx_one (fun k => nI (C.hh k)) t (a, k)) ≤ _; omega)
