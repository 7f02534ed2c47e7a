/-! FROM THE CODE TO THE MACHINE'S ANSWER -/
theorem code_cost {C : CP} (h60 : ∀ k, C.hh k ≤ 60) : ∀ (n : Nat) (r : List II) (t : TX) (s : CK), r.length ≤ n → TD t s → fck C r s = some none → cs (tx_code (fun k => nI (C.hh k)) r t) ≤ cs t + 20 * r.length := by
  intro n
  induction n with
  | zero =>
    intro r t s hr _ _
    have hr : r = [] := List.length_eq_zero_iff.mp (Nat.le_zero.mp hr)
    subst hr
    simp only [tx_code]
    omega
  | succ n ih =>
    intro r t s hr hT hck
    cases r with
    | nil => simp only [tx_code]; omega
    | cons i r =>
      have hrn : r.length ≤ n := by simpa using hr
      obtain ⟨a, k⟩ := i
      rw [fck] at hck
      have w := hT.1
      cases hs1 : ck C s (a, k) with
      | none => rw [hs1] at hck; cases hck
      | some s1 =>
      rw [hs1] at hck
      have hck : fck C r s1 = some none := hck
      by_cases c1 : ((a, k) : II).1 = 8 ∧ t_cond (q0 r 0).1 = true
      · cases r with
        | nil => exact absurd c1.2 (by decide)
        | cons j r =>
          obtain ⟨b, l⟩ := j
          have ha : a = 8 := c1.1
          subst ha
          have hb : b = 11 ∨ b = 12 := by simpa [t_cond, q0] using c1.2
          rcases hT.2 with ⟨rfl, h0⟩ | ⟨B, rfl⟩
          · rw [ck_n (by decide)] at hs1; cases hs1
          have hl2 := (ck_len hs1).2.1 rfl
          obtain ⟨d', hd'⟩ : ∃ d', t.2.1.length = d' + 2 := ⟨t.2.1.length - 2, by omega⟩
          rw [hd', ck_8, if_pos (by omega)] at hs1
          cases hs1
          rw [fck] at hck
          have e2 : ck C (some (d' + 2 - 1, B, false)) (b, l) = (if C.hh l + 1 = d' + 2 - 1 ∧ C.rho l < B then some (some (d' + 2 - 1 - 1, B, false)) else none) := by rcases hb with rfl | rfl <;> rfl
          rw [e2] at hck
          by_cases c2 : C.hh l + 1 = d' + 2 - 1 ∧ C.rho l < B
          · rw [if_pos c2] at hck
            have hck : fck C r (some (d' + 2 - 1 - 1, B, false)) = some none := hck
            have hcg := cs_cgo (d := d') ⟨w, hd'⟩ k b l
            have := ih r _ _ (by simp at hrn; omega) (td_of (tl_cgo (d := d') ⟨w, hd'⟩ k b l) (by omega)) hck
            rw [tx_code, if_pos ⟨rfl, c1.2⟩]
            simp only [List.length_cons] at *
            omega
          · rw [if_neg c2] at hck; cases hck
      by_cases h18 : a = 18
      · subst h18
        rcases hT.2 with ⟨rfl, h0⟩ | ⟨B, rfl⟩
        · rw [ck_n (by decide)] at hs1; cases hs1
        have hl1 := (ck_len hs1).1 (by decide)
        obtain ⟨d', hd'⟩ : ∃ d', t.2.1.length = d' + 1 := ⟨t.2.1.length - 1, by omega⟩
        rw [hd', ck_18, if_pos (by omega)] at hs1
        cases hs1
        cases r with
        | nil => cases hck
        | cons j r =>
          obtain ⟨b, l⟩ := j
          rw [fck] at hck
          by_cases hb : b = 12
          · subst hb
            have e2 : ck C (some (d' + 1, B, true)) (12, l) = (if (12 : Int32) = 12 ∧ C.hh l + 1 = d' + 1 ∧ C.rho l < B then some (some (d' + 1, B, false)) else none) := rfl
            rw [e2] at hck
            by_cases c2 : (12 : Int32) = 12 ∧ C.hh l + 1 = d' + 1 ∧ C.rho l < B
            · rw [if_pos c2] at hck
              have hck : fck C r (some (d' + 1, B, false)) = some none := hck
              have hcg := cs_case (d := d') ⟨w, hd'⟩ k l
              have := ih r _ _ (by simp at hrn; omega) (td_of (tl_case (d := d') ⟨w, hd'⟩ k l) (by omega)) hck
              rw [tx_code, if_neg (fun w => absurd w.1 (pne (by decide))), if_pos rfl]
              simp only [List.length_cons] at *
              omega
            · rw [if_neg c2] at hck; cases hck
          · rw [ck_p hb] at hck; cases hck
      · rw [tx_simple c1 h18]
        have key : TD (tx_one (fun k => nI (C.hh k)) t (a, k)) s1 ∧ cs (tx_one (fun k => nI (C.hh k)) t (a, k)) ≤ cs t + 20 := by
          rcases hT.2 with ⟨rfl, h0⟩ | ⟨B, rfl⟩
          · by_cases h13 : a = 13
            · subst h13
              cases hs1
              have hTL := tl_row (tx_write (tx_settle (t.2.1.length - 0) 0 t) 0 k) (h60 k)
              have h1 := cs_settle (t.2.1.length - 0) 0 t w (by omega)
              have h2 := cs_row (t := tx_write (tx_settle (t.2.1.length - 0) 0 t) 0 k) (nI (C.hh k))
              rw [cs_write] at h2
              rw [txo_13]
              exact ⟨td_of hTL rfl, by omega⟩
            · rw [ck_n h13] at hs1; cases hs1
          · exact one_td h60 ⟨w, rfl⟩ hs1 h18
        have := ih r _ _ hrn key.1 hck
        simp only [List.length_cons]
        omega
theorem exec_more (pn pa : List Int32) (N : Nat) : ∀ (M : Nat) (m : MM), N ≤ M → (m_exec pn pa N m).2.2.2.2.1 ≠ -1 → m_exec pn pa M m = m_exec pn pa N m := by
  induction N with
  | zero =>
    intro M m _ h
    have h : m.2.2.2.2.1 ≠ -1 := h
    cases M with
    | zero => rfl
    | succ M =>
      show m_exec pn pa (M + 1) m = m
      rw [m_exec, if_neg h]
  | succ N ih =>
    intro M m hM h
    obtain ⟨M, rfl⟩ : ∃ M', M = M' + 1 := ⟨M - 1, by omega⟩
    rw [m_exec] at h ⊢
    rw [m_exec]
    by_cases c : m.2.2.2.2.1 = -1
    · rw [if_pos c] at h ⊢
      rw [if_pos c]
      exact ih M _ (by omega) h
    · rw [if_neg c, if_neg c]
theorem work_sl (m : MM) (n k : Int32) : (m_work m n k).1 = m.1 := by
  obtain ⟨sl, a, b, pq, sa, ev, fl, L, V⟩ := m
  rw [m_work]
  simp only [apply_ite (fun m : MM => m.1)]
  simp
theorem step_len (pn pa : List Int32) (m : MM) : (m_step pn pa m).1.length = m.1.length := by
  unfold m_step
  split
  · rw [(m_move_keep _ _ _).1]; rfl
  split
  · rw [work_sl]; rfl
  split <;> rfl
theorem exec_len (pn pa : List Int32) (N : Nat) : ∀ m : MM, (m_exec pn pa N m).1.length = m.1.length := by
  induction N with
  | zero => intro m; rfl
  | succ N ih =>
    intro m
    rw [m_exec]
    split
    · rw [ih, step_len]
    · rfl
theorem nI_mul (a b : Nat) : nI a * nI b = nI (a * b) := (Int32.ofNat_mul a b).symm
/-- translated, loaded and run, a good code gives its own answer -/
theorem run_ok {C : CP} {c : List II} (h60 : ∀ k, C.hh k ≤ 60) (g : Good C c) (hc : c.length ≤ 400) {dl : Int32 → Int32} (hdl : ∀ k, (13, k) ∈ c → dl k = nI (C.hh k)) (hdl2 : ∀ k, (dl k).toNatClampNeg ≤ 131072) :
    tr_pre (up c).1 (up c).2 dl ((up c).1.length + 1) 0 ([], [], [], -1, -1) ∧
    ∃ im, (tr_loop (up c).1 (up c).2 dl ((up c).1.length + 1) 0 ([], [], [], -1, -1)).1 = im ∧ im.length < 131000 ∧
    (g_fin (g_dec im (im.length + 1) 0 ([], [], List.replicate 100 (-1)))).1.length ≤ 8000 ∧
    ∀ (F n : Nat) (st L V : Nat → Int32) (R : Rz) (sl : List Int32) (a b : Int32), F ≤ 20000 → fk (Lv c n) c bot (st, none, L, V, nI F) = some R → sl.length = 60 →
      ∃ Bd, (nI F + 2) * (nI (g_fin (g_dec im (im.length + 1) 0 ([], [], List.replicate 100 (-1)))).1.length + 1) = nI Bd ∧ Bd < 2 ^ 31 ∧
        mR (m_exec (g_fin (g_dec im (im.length + 1) 0 ([], [], List.replicate 100 (-1)))).1 (g_fin (g_dec im (im.length + 1) 0 ([], [], List.replicate 100 (-1)))).2.1 Bd (sl, a, b, 0, -1, 0, nI F, L, V)) = R ∧
        (m_exec (g_fin (g_dec im (im.length + 1) 0 ([], [], List.replicate 100 (-1)))).1 (g_fin (g_dec im (im.length + 1) 0 ([], [], List.replicate 100 (-1)))).2.1 Bd (sl, a, b, 0, -1, 0, nI F, L, V)).1.length = 60 := by
  have e0 : (([], [], [], -1, -1) : TT) = encT (TR 0) := rfl
  have hcost := code_cost h60 c.length c (TR 0) (some (0, C.W, false)) (Nat.le_refl _) (td_0 C.W) g.ok
  have hcs0 : cs (TR 0) = 0 := rfl
  obtain ⟨hsem, hMU, hokM, hckM, -⟩ := trans_sem h60 g
  refine ⟨?_, ?_⟩
  · rw [e0]
    exact tr_pre_ok h60 hdl hdl2 (by omega) _ 0 (TR 0) (some (0, C.W, false)) (by omega) (td_0 C.W) g.ok (by rw [hcs0]; omega)
  · rw [e0, tr_loop_tx hdl (by omega) _ 0 (TR 0) (by rw [up_len]; omega) (by omega), List.drop_zero]
    have e1 : (encT (tx_code (fun k => nI (C.hh k)) c (TR 0))).1 = (tx_code (fun k => nI (C.hh k)) c (TR 0)).1.flatMap enc := rfl
    rw [e1]
    have hlen : (tx_code (fun k => nI (C.hh k)) c (TR 0)).1.length ≤ 8000 := by
      have : (tx_code (fun k => nI (C.hh k)) c (TR 0)).1.length ≤ cs (tx_code (fun k => nI (C.hh k)) c (TR 0)) := by unfold cs; omega
      omega
    generalize (tx_code (fun k => nI (C.hh k)) c (TR 0)).1 = ms at *
    obtain ⟨l1, l2⟩ := enc_len ms
    have hPR := load_ok hokM hMU (by omega) l1 (List.replicate 100 (-1)) (by simp)
    refine ⟨ms.flatMap enc, rfl, by omega, ?_, ?_⟩
    · rw [hPR.1]
      exact Nat.le_trans List.countP_le_length hlen
    generalize g_fin (g_dec (ms.flatMap enc) ((ms.flatMap enc).length + 1) 0 ([], [], List.replicate 100 (-1))) = T at *
    intro F n st L V R sl a b hF h hsl
    have hcl : cnt ms ≤ 8000 := Nat.le_trans List.countP_le_length hlen
    have hR : Rel (TR 0) (st, none, L, V, nI F) (sl, a, b, 0, -1, 0, nI F, L, V) := ⟨tw_row [] (by omega), ⟨rfl, hsl, rfl, rfl, rfl, rfl, rfl⟩, fun q hq => absurd hq (by simp [TR])⟩
    have h2 := hsem n _ _ hR R h
    obtain ⟨hlt, N, hN, hN2, hN3⟩ := exec_ok hPR hokM hckM n ms [] (sl, a, b, 0, -1, 0, nI F, L, V) F C.W R rfl rfl h2 rfl rfl (by omega)
    have hpot := pot_size (K := fun j => (bnd C ms (some C.W)).getD j 0 * (cnt ms + 1) + (cnt ms - j)) hlt
    refine ⟨(F + 2) * (cnt ms + 1), ?_, ?_, ?_, ?_⟩
    · rw [hPR.1, show (2 : Int32) = nI 2 from rfl, nI_add, nI_1, nI_mul]
    · have : (F + 2) * (cnt ms + 1) ≤ 20002 * 8001 := Nat.mul_le_mul (by omega) (by omega)
      omega
    · have hNb : N ≤ (F + 2) * (cnt ms + 1) := by rw [Nat.add_mul]; omega
      have e2 : m_setat (sl, a, b, 0, -1, 0, nI F, L, V) (nI (cnt [])) = (sl, a, b, 0, -1, 0, nI F, L, V) := rfl
      rw [e2] at hN2 hN3
      rw [exec_more _ _ N _ _ hNb hN2]
      exact hN3
    · rw [exec_len]; exact hsl
