/-! A WHOLE CODE turned over does what it did -/
theorem x1 {n k : Int32} (h0 : ¬ n < 1) (h1 : n < 20) : ∀ i ∈ [(n, k)], okM i ∧ ¬ i.1 = 0 := by
  intro i hi
  rw [List.mem_singleton.mp hi]
  have e0 : ¬ n = 0 := fun c => h0 (by rw [c]; decide)
  refine ⟨⟨fun c => h0 (Int32.lt_trans c (by decide)), Int32.lt_trans h1 (by decide), ?_⟩, e0⟩
  rintro (c | c)
  · exact absurd c e0
  · have h1 : n < 20 := h1
    have c : 19 < n := c
    have h2 := Int32.lt_iff_toInt_lt.mp h1
    have h3 := Int32.lt_iff_toInt_lt.mp c
    simp at h2 h3
    omega
theorem xj {n k : Int32} (h0 : 19 < n) (h1 : n < 29) (hk : ¬ k < 0 ∧ k < 100) : ∀ i ∈ [(n, k)], okM i ∧ ¬ i.1 = 0 := by
  intro i hi
  rw [List.mem_singleton.mp hi]
  have e0 : ¬ n < 0 := fun c => absurd (Int32.lt_trans h0 c) (by decide)
  exact ⟨⟨e0, h1, fun _ => hk⟩, fun (c : n = 0) => absurd h0 (by rw [c]; decide)⟩
theorem xn : ∀ i ∈ ([] : List II), okM i ∧ ¬ i.1 = 0 := by intro i hi; cases hi
section CC
variable {C : CP} {B : Nat}
theorem c1 {n k : Int32} (h0 : ¬ n < 1) (h1 : n < 17) : fckM C [(n, k)] (some B) = some (some B) := by
  have e0 : ¬ n = 0 := fun c => h0 (by rw [c]; decide)
  have e17 : ¬ n = 17 := fun c => absurd h1 (by rw [c]; decide)
  have e18 : ¬ (n = 18 ∨ n = 19) := by rintro (c | c) <;> exact absurd h1 (by rw [c]; decide)
  have e20 : ¬ n = 20 := fun c => absurd h1 (by rw [c]; decide)
  have e21 : ¬ 20 < n := fun c => absurd (Int32.lt_trans c h1) (by decide)
  have e : ckM C (some B) (n, k) = some (some B) := by simp only [ckM, e0, e17, e18, e20, e21, if_false]
  rw [fckM, e]; rfl
theorem cj {n k : Int32} (h0 : 20 < n) (hr : C.rho k < B) : fckM C [(n, k)] (some B) = some (some B) := by
  have e0 : ¬ n = 0 := fun c => absurd h0 (by rw [c]; decide)
  have e17 : ¬ n = 17 := fun c => absurd h0 (by rw [c]; decide)
  have e18 : ¬ (n = 18 ∨ n = 19) := by rintro (c | c) <;> exact absurd h0 (by rw [c]; decide)
  have e20 : ¬ n = 20 := fun c => absurd h0 (by rw [c]; decide)
  have e : ckM C (some B) (n, k) = some (some B) := by simp only [ckM, e0, e17, e18, e20, h0, hr, if_false, if_true]
  rw [fckM, e]; rfl
theorem c20 {k : Int32} (hr : C.rho k < B) : fckM C [(20, k)] (some B) = some none := by
  have e : ckM C (some B) (20, k) = (if C.rho k < B then some none else none) := rfl
  rw [fckM, e, if_pos hr]; rfl
theorem c17 {k : Int32} : fckM C [(17, k)] (some B) = some (some C.W) := rfl
theorem c18 {k : Int32} : fckM C [(18, k)] (some B) = some none := rfl
theorem c19 {k : Int32} : fckM C [(19, k)] (some B) = some none := rfl
end CC
theorem tx_simple {dl : Int32 → Int32} {i : II} {r : List II} {t : TX} (h8 : ¬ (i.1 = 8 ∧ t_cond (q0 r 0).1 = true)) (h18 : ¬ i.1 = 18) : tx_code dl (i :: r) t = tx_code dl r (tx_one dl t i) := by
  cases r with
  | nil => simp only [tx_code, if_neg h18]
  | cons j r =>
    have h8' : ¬ (i.1 = 8 ∧ t_cond j.1 = true) := h8
    rw [tx_code, if_neg h8', if_neg h18]
section TXO
variable {dl : Int32 → Int32} {t : TX} {k : Int32}
theorem txo_0 : tx_one dl t (0, k) = tx_lay t 2 k := by
  rw [tx_one, if_pos rfl]
theorem txo_1 : tx_one dl t (1, k) = tx_lay t 3 k := by
  rw [tx_one, if_neg (pne (by decide)), if_pos rfl]
theorem txo_2 : tx_one dl t (2, k) = tx_store t k := by
  rw [tx_one, if_neg (pne (by decide)), if_neg (pne (by decide)), if_pos rfl]
theorem txo_3 : tx_one dl t (3, k) = tx_top t 8 := by
  rw [tx_one, if_neg (pne (by decide)), if_neg (pne (by decide)), if_neg (pne (by decide)), if_pos rfl]
theorem txo_4 : tx_one dl t (4, k) = tx_drop (tx_write (tx_meet t false).1 9 0) 2 := by
  rw [tx_one, if_neg (pne (by decide)), if_neg (pne (by decide)), if_neg (pne (by decide)), if_neg (pne (by decide)), if_pos rfl]
theorem txo_5 : tx_one dl t (5, k) = tx_top t 10 := by
  rw [tx_one, if_neg (pne (by decide)), if_neg (pne (by decide)), if_neg (pne (by decide)), if_neg (pne (by decide)), if_neg (pne (by decide)), if_pos rfl]
theorem txo_6 : tx_one dl t (6, k) = tx_top t 11 := by
  rw [tx_one, if_neg (pne (by decide)), if_neg (pne (by decide)), if_neg (pne (by decide)), if_neg (pne (by decide)), if_neg (pne (by decide)), if_neg (pne (by decide)), if_pos rfl]
theorem txo_7 : tx_one dl t (7, k) = tx_leave (tx_write (tx_meet t (a_commutes k)).1 12 k) := by
  rw [tx_one, if_neg (pne (by decide)), if_neg (pne (by decide)), if_neg (pne (by decide)), if_neg (pne (by decide)), if_neg (pne (by decide)), if_neg (pne (by decide)), if_neg (pne (by decide)), if_pos rfl]
theorem txo_8 : tx_one dl t (8, k) = tx_leave (tx_write (tx_meet t true).1 13 (if (tx_meet t true).2 = true then a_mir k else k)) := by
  rw [tx_one, if_neg (pne (by decide)), if_neg (pne (by decide)), if_neg (pne (by decide)), if_neg (pne (by decide)), if_neg (pne (by decide)), if_neg (pne (by decide)), if_neg (pne (by decide)), if_neg (pne (by decide)), if_pos rfl]
theorem txo_9 : tx_one dl t (9, k) = tx_keep t k := by
  rw [tx_one, if_neg (pne (by decide)), if_neg (pne (by decide)), if_neg (pne (by decide)), if_neg (pne (by decide)), if_neg (pne (by decide)), if_neg (pne (by decide)), if_neg (pne (by decide)), if_neg (pne (by decide)), if_neg (pne (by decide)), if_pos rfl]
theorem txo_10 : tx_one dl t (10, k) = tx_row (tx_write (tx_settle (t.2.1.length - 0) 0 t) 20 k) 0 := by
  rw [tx_one, if_neg (pne (by decide)), if_neg (pne (by decide)), if_neg (pne (by decide)), if_neg (pne (by decide)), if_neg (pne (by decide)), if_neg (pne (by decide)), if_neg (pne (by decide)), if_neg (pne (by decide)), if_neg (pne (by decide)), if_neg (pne (by decide)), if_pos rfl]
theorem txo_11 : tx_one dl t (11, k) = tx_goIf t 21 k := by
  rw [tx_one, if_neg (pne (by decide)), if_neg (pne (by decide)), if_neg (pne (by decide)), if_neg (pne (by decide)), if_neg (pne (by decide)), if_neg (pne (by decide)), if_neg (pne (by decide)), if_neg (pne (by decide)), if_neg (pne (by decide)), if_neg (pne (by decide)), if_neg (pne (by decide)), if_pos rfl]
theorem txo_12 : tx_one dl t (12, k) = tx_goIf t 22 k := by
  rw [tx_one, if_neg (pne (by decide)), if_neg (pne (by decide)), if_neg (pne (by decide)), if_neg (pne (by decide)), if_neg (pne (by decide)), if_neg (pne (by decide)), if_neg (pne (by decide)), if_neg (pne (by decide)), if_neg (pne (by decide)), if_neg (pne (by decide)), if_neg (pne (by decide)), if_neg (pne (by decide)), if_pos rfl]
theorem txo_13 : tx_one dl t (13, k) = tx_row (tx_write (tx_settle (t.2.1.length - 0) 0 t) 0 k) (dl k) := by
  rw [tx_one, if_neg (pne (by decide)), if_neg (pne (by decide)), if_neg (pne (by decide)), if_neg (pne (by decide)), if_neg (pne (by decide)), if_neg (pne (by decide)), if_neg (pne (by decide)), if_neg (pne (by decide)), if_neg (pne (by decide)), if_neg (pne (by decide)), if_neg (pne (by decide)), if_neg (pne (by decide)), if_neg (pne (by decide)), if_pos rfl]
theorem txo_14 : tx_one dl t (14, k) = tx_drop t 1 := by
  rw [tx_one, if_neg (pne (by decide)), if_neg (pne (by decide)), if_neg (pne (by decide)), if_neg (pne (by decide)), if_neg (pne (by decide)), if_neg (pne (by decide)), if_neg (pne (by decide)), if_neg (pne (by decide)), if_neg (pne (by decide)), if_neg (pne (by decide)), if_neg (pne (by decide)), if_neg (pne (by decide)), if_neg (pne (by decide)), if_neg (pne (by decide)), if_pos rfl]
theorem txo_15 : tx_one dl t (15, k) = tx_write t 17 0 := by
  rw [tx_one, if_neg (pne (by decide)), if_neg (pne (by decide)), if_neg (pne (by decide)), if_neg (pne (by decide)), if_neg (pne (by decide)), if_neg (pne (by decide)), if_neg (pne (by decide)), if_neg (pne (by decide)), if_neg (pne (by decide)), if_neg (pne (by decide)), if_neg (pne (by decide)), if_neg (pne (by decide)), if_neg (pne (by decide)), if_neg (pne (by decide)), if_neg (pne (by decide)), if_pos rfl]
theorem txo_16 : tx_one dl t (16, k) = tx_row (tx_write (tx_toA t (nI t.2.1.length - 1)) 18 0) 0 := by
  rw [tx_one, if_neg (pne (by decide)), if_neg (pne (by decide)), if_neg (pne (by decide)), if_neg (pne (by decide)), if_neg (pne (by decide)), if_neg (pne (by decide)), if_neg (pne (by decide)), if_neg (pne (by decide)), if_neg (pne (by decide)), if_neg (pne (by decide)), if_neg (pne (by decide)), if_neg (pne (by decide)), if_neg (pne (by decide)), if_neg (pne (by decide)), if_neg (pne (by decide)), if_neg (pne (by decide)), if_pos rfl]
theorem txo_17 : tx_one dl t (17, k) = tx_row (tx_write t 19 0) 0 := by
  rw [tx_one, if_neg (pne (by decide)), if_neg (pne (by decide)), if_neg (pne (by decide)), if_neg (pne (by decide)), if_neg (pne (by decide)), if_neg (pne (by decide)), if_neg (pne (by decide)), if_neg (pne (by decide)), if_neg (pne (by decide)), if_neg (pne (by decide)), if_neg (pne (by decide)), if_neg (pne (by decide)), if_neg (pne (by decide)), if_neg (pne (by decide)), if_neg (pne (by decide)), if_neg (pne (by decide)), if_neg (pne (by decide)), if_pos rfl]
theorem txo_19 : tx_one dl t (19, k) = tx_leave (tx_write (tx_meet t false).1 15 0) := by
  rw [tx_one, if_neg (pne (by decide)), if_neg (pne (by decide)), if_neg (pne (by decide)), if_neg (pne (by decide)), if_neg (pne (by decide)), if_neg (pne (by decide)), if_neg (pne (by decide)), if_neg (pne (by decide)), if_neg (pne (by decide)), if_neg (pne (by decide)), if_neg (pne (by decide)), if_neg (pne (by decide)), if_neg (pne (by decide)), if_neg (pne (by decide)), if_neg (pne (by decide)), if_neg (pne (by decide)), if_neg (pne (by decide)), if_neg (pne (by decide)), if_pos rfl]
theorem txo_20 : tx_one dl t (20, k) = tx_byte t := by
  rw [tx_one, if_neg (pne (by decide)), if_neg (pne (by decide)), if_neg (pne (by decide)), if_neg (pne (by decide)), if_neg (pne (by decide)), if_neg (pne (by decide)), if_neg (pne (by decide)), if_neg (pne (by decide)), if_neg (pne (by decide)), if_neg (pne (by decide)), if_neg (pne (by decide)), if_neg (pne (by decide)), if_neg (pne (by decide)), if_neg (pne (by decide)), if_neg (pne (by decide)), if_neg (pne (by decide)), if_neg (pne (by decide)), if_neg (pne (by decide)), if_neg (pne (by decide)), if_pos rfl]
end TXO
theorem go1 {C : CP} {Λ : Int32 → KK} {ΛM : Int32 → KM} {dl : Int32 → Int32} {x : List II} {F : KK → KK} {t t' : TX} {a r : List II} {s' : CK} {d B : Nat} (hcode : tx_code dl (a ++ r) t = tx_code dl r t') (hF : ∀ κ, fk Λ (a ++ r) κ = F (fk Λ r κ)) (ha : ∀ i ∈ a, ¬ i.1 = 13) (S : Sm x F ΛM t t') (hx : ∀ i ∈ x, okM i ∧ ¬ i.1 = 0) (hck : fckM C x (some B) = some (s'.map fun x => x.2.1))
    (hn : s' = none → ∀ κ κ' : KK, F κ = F κ') (IH : ∃ e, (tx_code dl r t').1 = t'.1 ++ e ∧ CS C Λ ΛM r t' s' e) : ∃ e, (tx_code dl (a ++ r) t).1 = t.1 ++ e ∧ CS C Λ ΛM (a ++ r) t (some (d, B, false)) e := by
  obtain ⟨e, h1, h2⟩ := IH
  obtain ⟨e', h3, h4⟩ := CS_step (d := d) rfl hF ha S hx hck hn h2
  exact ⟨e', by rw [hcode, h1, h3], h4⟩
theorem td_of {t : TX} {d e B : Nat} (h : TL t d) (he : e = d) : TD t (some (e, B, false)) := ⟨h.1, .inr ⟨B, by rw [h.2, he]⟩⟩
theorem a1 {n k : Int32} (h : ¬ n = 13) : ∀ i ∈ [(n, k)], ¬ i.1 = 13 := by
  intro i hi; rw [List.mem_singleton.mp hi]; exact h
theorem a2 {n k m l : Int32} (h : ¬ n = 13) (h' : ¬ m = 13) : ∀ i ∈ [(n, k), (m, l)], ¬ i.1 = 13 := by
  intro i hi
  rcases List.mem_cons.mp hi with rfl | hi
  · exact h
  · rw [List.mem_singleton.mp hi]; exact h' 
/-- what is written for r, and what it does -/
theorem code_cs {C : CP} {c : List II} {Λ : Int32 → KK} {ΛM : Int32 → KM} (h60 : ∀ k, C.hh k ≤ 60) (hf : fitA c) (hJ : ∀ k, goals c k → ∀ σ m, Rel (TR (C.hh k)) σ m → Ole (Λ k σ) (ΛM k m)) :
    ∀ (n : Nat) (r : List II) (t : TX) (s : CK), r.length ≤ n → (∀ i ∈ r, i ∈ c) → TD t s → fck C r s = some none → ∃ e, (tx_code (fun k => nI (C.hh k)) r t).1 = t.1 ++ e ∧ CS C Λ ΛM r t s e := by
  intro n
  induction n with
  | zero =>
    intro r t s hr _ _ hck
    have hr : r = [] := List.length_eq_zero_iff.mp (Nat.le_zero.mp hr)
    subst hr
    cases hck
    exact ⟨[], by simp [tx_code], ⟨fun σ m w => absurd rfl w, fun p k r' h => (by cases p <;> cases h), rfl, (by intro i hi; cases hi), rfl⟩⟩
  | succ n ih =>
    intro r t s hr hrc hT hck
    cases r with
    | nil =>
      cases hck
      exact ⟨[], by simp [tx_code], ⟨fun σ m w => absurd rfl w, fun p k r' h => (by cases p <;> cases h), rfl, (by intro i hi; cases hi), rfl⟩⟩
    | cons i r =>
      have hrn : r.length ≤ n := by simpa using hr
      have hrc' : ∀ i ∈ r, i ∈ c := fun j hj => hrc j (List.mem_cons_of_mem _ hj)
      have hic := hrc i (List.mem_cons_self ..)
      obtain ⟨a, k⟩ := i
      have hfi : fit2 a k := hf _ hic
      rw [fck] at hck
      cases hs1 : ck C s (a, k) with
      | none => rw [hs1] at hck; cases hck
      | some s1 =>
        rw [hs1] at hck
        have hck : fck C r s1 = some none := hck
        -- a label
        have hlab : a = 13 → (s = none ∨ ∃ B, s = some (t.2.1.length, B, false) ∧ C.hh k = t.2.1.length ∧ C.rho k < B) → s1 = some (C.hh k, C.rho k, false) → ∃ e, (tx_code (fun k => nI (C.hh k)) ((a, k) :: r) t).1 = t.1 ++ e ∧ CS C Λ ΛM ((a, k) :: r) t s e := by
          rintro rfl hsd rfl
          have hTL := tl_row (tx_write (tx_settle (t.2.1.length - 0) 0 t) 0 k) (h60 k)
          obtain ⟨e, h1, h2⟩ := ih r _ _ hrn hrc' ⟨hTL.1, .inr ⟨C.rho k, by rw [hTL.2]⟩⟩ hck
          obtain ⟨m1, f1⟩ := settle_mv t.2.1.length 0 t hT.1 (by omega)
          obtain ⟨q, i1, q1, v1⟩ := Mv_rel m1
          have hcode : tx_code (fun k => nI (C.hh k)) ((13, k) :: r) t = tx_code (fun k => nI (C.hh k)) r (tx_row (tx_write (tx_settle (t.2.1.length - 0) 0 t) 0 k) (nI (C.hh k))) := by
            rw [tx_simple (fun w => absurd w.1 (pne (by decide))) (pne (by decide)), txo_13]
          have himg : (tx_row (tx_write (tx_settle (t.2.1.length - 0) 0 t) 0 k) (nI (C.hh k))).1 = t.1 ++ (q ++ [(0, k)]) := by
            show (tx_settle (t.2.1.length - 0) 0 t).1 ++ [(0, k)] = _
            rw [Nat.sub_zero, i1, List.append_assoc]
          have hrow : ∀ σ m, Rel (TR (C.hh k)) σ m → Ole (fk Λ r bot σ) (fkM ΛM e botM m) := by
            intro σ m hR
            refine h2.sim σ m (by simp) ?_
            rw [tx_row_eq _ (by have := h60 k; omega)]
            exact Rel_img hR _
          refine ⟨(q ++ [(0, k)]) ++ e, by rw [hcode, h1, himg, List.append_assoc], ⟨fun σ m hne hR => ?_, fun p k' r' hp => ?_, ?_, ?_, ?_⟩⟩
          · obtain ⟨B, hs, hd, -⟩ := hsd.resolve_left hne
            have s1 : ∀ q, q < C.hh k → nAt (tx_settle t.2.1.length 0 t).2.1 (nI q) = 0 := fun q hq => f1 q (by omega) (.inl ⟨by omega, by omega⟩)
            have hR1 := v1 σ m hR
            have l1 := m1.2.1
            have hR2 := rel_row hR1.1 hR1.2.2 hR1.2.1 (by omega) s1 rfl (fun q hq => by rw [l1, hd]) []
            rw [fkM_app, fkM_app, fkM_quiet q1]
            show Ole (one Λ (13, k) (fk Λ r bot) σ) (fkM ΛM e botM (mv q m))
            obtain ⟨st, pd, L, V, f⟩ := σ
            have b1 : pd = none := hR.2.1.pd
            subst b1
            rw [one_13]
            exact hrow _ _ hR2
          · cases p with
            | nil =>
              simp only [List.nil_append, List.cons.injEq, Prod.mk.injEq, true_and] at hp
              obtain ⟨rfl, rfl⟩ := hp
              exact ⟨q, e, by simp, hrow⟩
            | cons j p =>
              simp only [List.cons_append, List.cons.injEq] at hp
              obtain ⟨e1, e2, h3, h4⟩ := h2.at_ p k' r' hp.2
              exact ⟨(q ++ [(0, k)]) ++ e1, e2, by rw [h3]; simp, h4⟩
          · have e0 : [((0, k) : II)].filter mk0 = [(0, k)] := rfl
            have e1 : (((13, k) : II) :: r).filter lab = (13, k) :: r.filter lab := List.filter_cons_of_pos rfl
            rw [List.filter_append, List.filter_append, quiet_mk q1, h2.mk, e0, e1]
            rfl
          · intro i hi
            rcases List.mem_append.mp hi with w | w
            · rcases List.mem_append.mp w with w | w
              · exact quiet_ok q1 i w
              · rw [List.mem_singleton.mp w]
                exact ⟨(show ¬ (0 : Int32) < 0 by decide), (show (0 : Int32) < 29 by decide), fun _ => hfi.2.2.2.2 (.inr rfl)⟩
            · exact h2.ok i w
          · rcases hsd with rfl | ⟨B, rfl, hd, hB⟩
            · have hq0 : q = [] := by
                rcases hT.2 with ⟨-, h0⟩ | ⟨B, w⟩
                · rw [h0] at i1
                  have : (tx_settle 0 0 t).1 = t.1 := rfl
                  rw [this] at i1
                  have := congrArg List.length i1
                  rw [List.length_append] at this
                  exact List.length_eq_zero_iff.mp (by omega)
                · cases w
              subst hq0
              exact h2.ckM
            · rw [fckM_app, fckM_app]
              show ((fckM C q (some B)).bind _).bind _ = _
              rw [fckM_quiet q1]
              show (fckM C [(0, k)] (some B)).bind _ = _
              have e0 : ckM C (some B) (0, k) = (if C.rho k < B then some (some (C.rho k)) else none) := rfl
              rw [fckM, e0, if_pos hB]
              exact h2.ckM
        rcases hT.2 with ⟨rfl, hl0⟩ | ⟨B, rfl⟩
        · by_cases h13 : a = 13
          · exact hlab h13 (.inl rfl) (by subst h13; cases hs1; rfl)
          · rw [ck_n h13] at hs1; cases hs1
        have w := hT.1
        obtain ⟨d, hd⟩ : ∃ d, t.2.1.length = d := ⟨_, rfl⟩
        rw [hd] at hs1 ⊢
        have hTL : TL t d := ⟨w, hd⟩
        have hJ' : ∀ {d0 : Nat}, C.hh k = d0 → t_goes a = true → ∀ σ m, Rel (TR d0) σ m → Ole (Λ k σ) (ΛM k m) := by
          rintro d0 rfl hg σ m hR
          exact hJ k ⟨a, hg, hic⟩ σ m hR
        rcases ck_inv hs1 with ⟨rfl, c0, rfl⟩ | ⟨rfl, c0, rfl⟩ | ⟨rfl, c0, rfl⟩ | ⟨rfl, c0, rfl⟩ | ⟨rfl, c0, rfl⟩ | ⟨rfl, c0, rfl⟩ | ⟨rfl, c0, rfl⟩ | ⟨rfl, c0, rfl⟩ | ⟨rfl, c0, rfl⟩ | ⟨rfl, c0, rfl⟩ | ⟨rfl, c0, rfl⟩ | ⟨rfl, c0, rfl⟩ | ⟨rfl, c0, rfl⟩ | ⟨rfl, c0, rfl⟩ | ⟨rfl, c0, rfl⟩ | ⟨rfl, rfl⟩ | ⟨rfl, c0, rfl⟩ | ⟨rfl, rfl⟩ | ⟨rfl, c0, rfl⟩ | ⟨rfl, c0, rfl⟩ | ⟨rfl, c0, rfl⟩
        · refine go1 (a := [(0, k)]) (s' := some (d + 1, B, false)) (x := []) (t' := tx_lay t 2 k) (F := one Λ (0, k)) ?_ (fun κ => rfl) (a1 (by decide)) (sim_0 (by omega)) xn rfl (fun w => by cases w) ?_
          · show tx_code _ ((0, k) :: r) t = _
            rw [tx_simple (fun w => absurd w.1 (pne (by decide))) (pne (by decide)), txo_0]
          · exact ih r _ _ hrn hrc' (td_of (tl_lay (d := d) (de := k) hTL (by omega) (kd := 2) (.inl rfl)) (by omega)) hck
        · refine go1 (a := [(1, k)]) (s' := some (d + 1, B, false)) (x := []) (t' := tx_lay t 3 k) (F := one Λ (1, k)) ?_ (fun κ => rfl) (a1 (by decide)) (sim_1 (by omega)) xn rfl (fun w => by cases w) ?_
          · show tx_code _ ((1, k) :: r) t = _
            rw [tx_simple (fun w => absurd w.1 (pne (by decide))) (pne (by decide)), txo_1]
          · exact ih r _ _ hrn hrc' (td_of (tl_lay (d := d) (de := k) hTL (by omega) (kd := 3) (.inr rfl)) (by omega)) hck
        · obtain ⟨d', rfl⟩ : ∃ d', d = d' + 1 := ⟨d - 1, by omega⟩
          refine go1 (a := [(2, k)]) (s' := some (d' + 1 - 1, B, false)) (x := [(7, k)]) (t' := tx_store t k) (F := one Λ (2, k)) ?_ (fun κ => rfl) (a1 (by decide)) (sim_2 hd w) (x1 (by decide) (by decide)) (c1 (by decide) (by decide)) (fun w => by cases w) ?_
          · show tx_code _ ((2, k) :: r) t = _
            rw [tx_simple (fun w => absurd w.1 (pne (by decide))) (pne (by decide)), txo_2]
          · exact ih r _ _ hrn hrc' (td_of (tl_store hTL k) (by omega)) hck
        · obtain ⟨d', rfl⟩ : ∃ d', d = d' + 1 := ⟨d - 1, by omega⟩
          refine go1 (a := [(3, k)]) (s' := some (d' + 1, B, false)) (x := [(8, 0)]) (t' := tx_top t 8) (F := one Λ (3, k)) ?_ (fun κ => rfl) (a1 (by decide)) (sim_3 hd w) (x1 (by decide) (by decide)) (c1 (by decide) (by decide)) (fun w => by cases w) ?_
          · show tx_code _ ((3, k) :: r) t = _
            rw [tx_simple (fun w => absurd w.1 (pne (by decide))) (pne (by decide)), txo_3]
          · exact ih r _ _ hrn hrc' (td_of (tl_top hTL 8) (by omega)) hck
        · obtain ⟨d', rfl⟩ : ∃ d', d = d' + 2 := ⟨d - 2, by omega⟩
          refine go1 (a := [(4, k)]) (s' := some (d' + 2 - 2, B, false)) (x := [(9, 0)]) (t' := tx_drop (tx_write (tx_meet t false).1 9 0) 2) (F := one Λ (4, k)) ?_ (fun κ => rfl) (a1 (by decide)) (sim_4 hd w) (x1 (by decide) (by decide)) (c1 (by decide) (by decide)) (fun w => by cases w) ?_
          · show tx_code _ ((4, k) :: r) t = _
            rw [tx_simple (fun w => absurd w.1 (pne (by decide))) (pne (by decide)), txo_4]
          · exact ih r _ _ hrn hrc' (td_of (tl_drop (c := 2) (tl_write (tl_meet hTL false) 9 0)) (by omega)) hck
        · obtain ⟨d', rfl⟩ : ∃ d', d = d' + 1 := ⟨d - 1, by omega⟩
          refine go1 (a := [(5, k)]) (s' := some (d' + 1, B, false)) (x := [(10, 0)]) (t' := tx_top t 10) (F := one Λ (5, k)) ?_ (fun κ => rfl) (a1 (by decide)) (sim_5 hd w) (x1 (by decide) (by decide)) (c1 (by decide) (by decide)) (fun w => by cases w) ?_
          · show tx_code _ ((5, k) :: r) t = _
            rw [tx_simple (fun w => absurd w.1 (pne (by decide))) (pne (by decide)), txo_5]
          · exact ih r _ _ hrn hrc' (td_of (tl_top hTL 10) (by omega)) hck
        · obtain ⟨d', rfl⟩ : ∃ d', d = d' + 1 := ⟨d - 1, by omega⟩
          refine go1 (a := [(6, k)]) (s' := some (d' + 1, B, false)) (x := [(11, 0)]) (t' := tx_top t 11) (F := one Λ (6, k)) ?_ (fun κ => rfl) (a1 (by decide)) (sim_6 hd w) (x1 (by decide) (by decide)) (c1 (by decide) (by decide)) (fun w => by cases w) ?_
          · show tx_code _ ((6, k) :: r) t = _
            rw [tx_simple (fun w => absurd w.1 (pne (by decide))) (pne (by decide)), txo_6]
          · exact ih r _ _ hrn hrc' (td_of (tl_top hTL 11) (by omega)) hck
        · obtain ⟨d', rfl⟩ : ∃ d', d = d' + 2 := ⟨d - 2, by omega⟩
          refine go1 (a := [(7, k)]) (s' := some (d' + 2 - 1, B, false)) (x := [(12, k)]) (t' := tx_leave (tx_write (tx_meet t (a_commutes k)).1 12 k)) (F := one Λ (7, k)) ?_ (fun κ => rfl) (a1 (by decide)) (sim_7 hd w) (x1 (by decide) (by decide)) (c1 (by decide) (by decide)) (fun w => by cases w) ?_
          · show tx_code _ ((7, k) :: r) t = _
            rw [tx_simple (fun w => absurd w.1 (pne (by decide))) (pne (by decide)), txo_7]
          · exact ih r _ _ hrn hrc' (td_of (tl_leave (a_commutes k) hTL 12 k) (by omega)) hck
        · obtain ⟨d', rfl⟩ : ∃ d', d = d' + 2 := ⟨d - 2, by omega⟩
          have hk6 : k6 k := hfi.2.1 (.inl rfl)
          by_cases hnc : ((8, k) : II).1 = 8 ∧ t_cond (q0 r 0).1 = true
          · cases r with
            | nil => exact absurd hnc.2 (by decide)
            | cons j r =>
              obtain ⟨b, l⟩ := j
              have hb : b = 11 ∨ b = 12 := by simpa [t_cond, q0] using hnc.2
              have hgl : t_goes b = true := by rcases hb with rfl | rfl <;> rfl
              have hjc : (b, l) ∈ c := hrc' (b, l) (List.mem_cons_self ..)
              have hfj : fit2 b l := hf _ hjc
              rw [fck] at hck
              have e2 : ck C (some (d' + 2 - 1, B, false)) (b, l) = (if C.hh l + 1 = d' + 2 - 1 ∧ C.rho l < B then some (some (d' + 2 - 1 - 1, B, false)) else none) := by rcases hb with rfl | rfl <;> rfl
              rw [e2] at hck
              by_cases c2 : C.hh l + 1 = d' + 2 - 1 ∧ C.rho l < B
              · rw [if_pos c2] at hck
                have hck : fck C r (some (d' + 2 - 1 - 1, B, false)) = some none := hck
                have J := fun σ m (hR : Rel (TR d') σ m) => hJ l ⟨b, hgl, hjc⟩ σ m (by rw [show C.hh l = d' by omega]; exact hR)
                obtain ⟨k', hk', S⟩ := sim_cgo (Λ := Λ) (ΛM := ΛM) (l := l) hk6 hb J hd w
                have hkr : 20 < 23 + k' ∧ 19 < 23 + k' ∧ 23 + k' < 29 := by rcases hk' with rfl | rfl | rfl | rfl | rfl | rfl <;> decide
                refine go1 (a := [(8, k), (b, l)]) (x := [(23 + k', l)]) (t' := tx_cgo t k b l) (F := fun κ => one Λ (8, k) (one Λ (b, l) κ)) (s' := some (d' + 2 - 1 - 1, B, false)) ?_ (fun κ => rfl) (a2 (by decide) (by rcases hb with rfl | rfl <;> decide)) S (xj hkr.2.1 hkr.2.2 (hfj.2.2.2.2 (.inl hgl))) (cj hkr.1 c2.2) (fun w => by cases w) ?_
                · show tx_code _ ((8, k) :: (b, l) :: r) t = _
                  rw [tx_code, if_pos ⟨rfl, hnc.2⟩]
                · refine ih r _ _ (by simp at hrn; omega) (fun j hj => hrc' j (List.mem_cons_of_mem _ hj)) (td_of (tl_cgo hTL k b l) (by omega)) hck
              · rw [if_neg c2] at hck; cases hck
          · refine go1 (a := [(8, k)]) (s' := some (d' + 2 - 1, B, false)) (x := [(13, if (tx_meet t true).2 = true then a_mir k else k)]) (t' := tx_leave (tx_write (tx_meet t true).1 13 (if (tx_meet t true).2 = true then a_mir k else k))) (F := one Λ (8, k)) ?_ (fun κ => rfl) (a1 (by decide)) (sim_8 hk6 hd w) (x1 (by decide) (by decide)) (c1 (by decide) (by decide)) (fun w => by cases w) ?_
            · show tx_code _ ((8, k) :: r) t = _
              rw [tx_simple hnc (pne (by decide)), txo_8]
            · exact ih r _ _ hrn hrc' (td_of (tl_leave true hTL 13 (if (tx_meet t true).2 = true then a_mir k else k)) (by omega)) hck
        · obtain ⟨d', rfl⟩ : ∃ d', d = d' + 2 := ⟨d - 2, by omega⟩
          have hk6 : k6 k := hfi.2.1 (.inr rfl)
          have hx9 : ∀ i ∈ [if (tx_meet t true).2 = true then ((13, a_mir k) : II) else (14, k)], okM i ∧ ¬ i.1 = 0 := by
            split
            · exact x1 (by decide) (by decide)
            · exact x1 (by decide) (by decide)
          have hc9 : fckM C [if (tx_meet t true).2 = true then ((13, a_mir k) : II) else (14, k)] (some B) = some (some B) := by
            split
            · exact c1 (by decide) (by decide)
            · exact c1 (by decide) (by decide)
          refine go1 (a := [(9, k)]) (s' := some (d' + 2, B, false)) (x := [if (tx_meet t true).2 = true then (13, a_mir k) else (14, k)]) (t' := tx_keep t k) (F := one Λ (9, k)) ?_ (fun κ => rfl) (a1 (by decide)) (sim_9 hk6 hd w) hx9 hc9 (fun w => by cases w) ?_
          · show tx_code _ ((9, k) :: r) t = _
            rw [tx_simple (fun w => absurd w.1 (pne (by decide))) (pne (by decide)), txo_9]
          · exact ih r _ _ hrn hrc' (td_of (tl_keep hTL k) (by omega)) hck
        · refine go1 (a := [(10, k)]) (s' := none) (x := [(20, k)]) (t' := tx_row (tx_write (tx_settle (t.2.1.length - 0) 0 t) 20 k) 0) (F := one Λ (10, k)) ?_ (fun κ => rfl) (a1 (by decide)) (sim_10 (hJ' c0.1 rfl) hd w) (xj (by decide) (by decide) (hfi.2.2.2.2 (.inl rfl))) (c20 c0.2) (fun _ κ κ' => one_ends rfl κ κ') ?_
          · show tx_code _ ((10, k) :: r) t = _
            rw [tx_simple (fun w => absurd w.1 (pne (by decide))) (pne (by decide)), txo_10]
          · exact ih r _ _ hrn hrc' ⟨(tl_row (d := 0) (tx_write (tx_settle (t.2.1.length - 0) 0 t) 20 k) (by omega)).1, .inl ⟨rfl, (tl_row (d := 0) (tx_write (tx_settle (t.2.1.length - 0) 0 t) 20 k) (by omega)).2⟩⟩ hck
        · obtain ⟨d', rfl⟩ : ∃ d', d = d' + 1 := ⟨d - 1, by omega⟩
          refine go1 (a := [(11, k)]) (s' := some (d' + 1 - 1, B, false)) (x := [(21, k)]) (t' := tx_goIf t 21 k) (F := one Λ (11, k)) ?_ (fun κ => rfl) (a1 (by decide)) (sim_11 (hJ' (d0 := d') (by omega) rfl) hd w) (xj (by decide) (by decide) (hfi.2.2.2.2 (.inl rfl))) (cj (by decide) c0.2) (fun w => by cases w) ?_
          · show tx_code _ ((11, k) :: r) t = _
            rw [tx_simple (fun w => absurd w.1 (pne (by decide))) (pne (by decide)), txo_11]
          · exact ih r _ _ hrn hrc' (td_of (tl_goIf hTL 21 k) (by omega)) hck
        · obtain ⟨d', rfl⟩ : ∃ d', d = d' + 1 := ⟨d - 1, by omega⟩
          refine go1 (a := [(12, k)]) (s' := some (d' + 1 - 1, B, false)) (x := [(22, k)]) (t' := tx_goIf t 22 k) (F := one Λ (12, k)) ?_ (fun κ => rfl) (a1 (by decide)) (sim_12 (hJ' (d0 := d') (by omega) rfl) hd w) (xj (by decide) (by decide) (hfi.2.2.2.2 (.inl rfl))) (cj (by decide) c0.2) (fun w => by cases w) ?_
          · show tx_code _ ((12, k) :: r) t = _
            rw [tx_simple (fun w => absurd w.1 (pne (by decide))) (pne (by decide)), txo_12]
          · exact ih r _ _ hrn hrc' (td_of (tl_goIf hTL 22 k) (by omega)) hck
        · have h9 := hlab rfl (.inr ⟨B, by rw [hd], by rw [hd]; exact c0.1, c0.2⟩) (by rw [c0.1])
          rw [hd] at h9
          exact h9
        · obtain ⟨d', rfl⟩ : ∃ d', d = d' + 1 := ⟨d - 1, by omega⟩
          refine go1 (a := [(14, k)]) (s' := some (d' + 1 - 1, B, false)) (x := []) (t' := tx_drop t 1) (F := one Λ (14, k)) ?_ (fun κ => rfl) (a1 (by decide)) (sim_14 hd) xn rfl (fun w => by cases w) ?_
          · show tx_code _ ((14, k) :: r) t = _
            rw [tx_simple (fun w => absurd w.1 (pne (by decide))) (pne (by decide)), txo_14]
          · exact ih r _ _ hrn hrc' (td_of (tl_drop (c := 1) hTL) (by omega)) hck
        · refine go1 (a := [(15, k)]) (s' := some (d, C.W, false)) (x := [(17, 0)]) (t' := tx_write t 17 0) (F := one Λ (15, k)) ?_ (fun κ => rfl) (a1 (by decide)) sim_15 (x1 (by decide) (by decide)) c17 (fun w => by cases w) ?_
          · show tx_code _ ((15, k) :: r) t = _
            rw [tx_simple (fun w => absurd w.1 (pne (by decide))) (pne (by decide)), txo_15]
          · exact ih r _ _ hrn hrc' (td_of (tl_write hTL 17 0) (by omega)) hck
        · obtain ⟨d', rfl⟩ : ∃ d', d = d' + 1 := ⟨d - 1, by omega⟩
          refine go1 (a := [(16, k)]) (s' := none) (x := [(18, 0)]) (t' := tx_row (tx_write (tx_toA t (nI t.2.1.length - 1)) 18 0) 0) (F := one Λ (16, k)) ?_ (fun κ => rfl) (a1 (by decide)) (sim_16 hd w) (x1 (by decide) (by decide)) c18 (fun _ κ κ' => one_ends rfl κ κ') ?_
          · show tx_code _ ((16, k) :: r) t = _
            rw [tx_simple (fun w => absurd w.1 (pne (by decide))) (pne (by decide)), txo_16]
          · exact ih r _ _ hrn hrc' ⟨(tl_row (d := 0) (tx_write (tx_toA t (nI t.2.1.length - 1)) 18 0) (by omega)).1, .inl ⟨rfl, (tl_row (d := 0) (tx_write (tx_toA t (nI t.2.1.length - 1)) 18 0) (by omega)).2⟩⟩ hck
        · refine go1 (a := [(17, k)]) (s' := none) (x := [(19, 0)]) (t' := tx_row (tx_write t 19 0) 0) (F := one Λ (17, k)) ?_ (fun κ => rfl) (a1 (by decide)) sim_17 (x1 (by decide) (by decide)) c19 (fun _ κ κ' => one_ends rfl κ κ') ?_
          · show tx_code _ ((17, k) :: r) t = _
            rw [tx_simple (fun w => absurd w.1 (pne (by decide))) (pne (by decide)), txo_17]
          · exact ih r _ _ hrn hrc' ⟨(tl_row (d := 0) (tx_write t 19 0) (by omega)).1, .inl ⟨rfl, (tl_row (d := 0) (tx_write t 19 0) (by omega)).2⟩⟩ hck
        · obtain ⟨d', rfl⟩ : ∃ d', d = d' + 1 := ⟨d - 1, by omega⟩
          cases r with
          | nil => cases hck
          | cons j r =>
            obtain ⟨b, l⟩ := j
            rw [fck] at hck
            by_cases hb : b = 12
            · subst hb
              have hjc : (12, l) ∈ c := hrc' (12, l) (List.mem_cons_self ..)
              have hfj : fit2 12 l := hf _ hjc
              have e2 : ck C (some (d' + 1, B, true)) (12, l) = (if (12 : Int32) = 12 ∧ C.hh l + 1 = d' + 1 ∧ C.rho l < B then some (some (d' + 1, B, false)) else none) := rfl
              rw [e2] at hck
              by_cases c2 : (12 : Int32) = 12 ∧ C.hh l + 1 = d' + 1 ∧ C.rho l < B
              · rw [if_pos c2] at hck
                have hck : fck C r (some (d' + 1, B, false)) = some none := hck
                have J := fun σ m (hR : Rel (TR d') σ m) => hJ l ⟨12, rfl, hjc⟩ σ m (by rw [show C.hh l = d' by omega]; exact hR)
                refine go1 (a := [(18, k), (12, l)]) (x := [(23, l)]) (t' := tx_case t k l) (F := fun κ => one Λ (18, k) (one Λ (12, l) κ)) (s' := some (d' + 1, B, false)) ?_ (fun κ => rfl) (a2 (by decide) (by decide)) (sim_case J hd w) (xj (by decide) (by decide) (hfj.2.2.2.2 (.inl rfl))) (cj (by decide) c2.2.2) (fun w => by cases w) ?_
                · show tx_code _ ((18, k) :: (12, l) :: r) t = _
                  rw [tx_code, if_neg (fun w => absurd w.1 (pne (by decide))), if_pos rfl]
                · refine ih r _ _ (by simp at hrn; omega) (fun j hj => hrc' j (List.mem_cons_of_mem _ hj)) (td_of (tl_case hTL k l) (by omega)) hck
              · rw [if_neg c2] at hck; cases hck
            · rw [ck_p hb] at hck; cases hck
        · obtain ⟨d', rfl⟩ : ∃ d', d = d' + 2 := ⟨d - 2, by omega⟩
          refine go1 (a := [(19, k)]) (s' := some (d' + 2 - 1, B, false)) (x := [(15, 0)]) (t' := tx_leave (tx_write (tx_meet t false).1 15 0)) (F := one Λ (19, k)) ?_ (fun κ => rfl) (a1 (by decide)) (sim_19 hd w) (x1 (by decide) (by decide)) (c1 (by decide) (by decide)) (fun w => by cases w) ?_
          · show tx_code _ ((19, k) :: r) t = _
            rw [tx_simple (fun w => absurd w.1 (pne (by decide))) (pne (by decide)), txo_19]
          · exact ih r _ _ hrn hrc' (td_of (tl_leave false hTL 15 0) (by omega)) hck
        · obtain ⟨d', rfl⟩ : ∃ d', d = d' + 3 := ⟨d - 3, by omega⟩
          refine go1 (a := [(20, k)]) (s' := some (d' + 3 - 3, B, false)) (x := [(16, nI (t.2.1.length - 3))]) (t' := tx_byte t) (F := one Λ (20, k)) ?_ (fun κ => rfl) (a1 (by decide)) (sim_20 hd w) (x1 (by decide) (by decide)) (c1 (by decide) (by decide)) (fun w => by cases w) ?_
          · show tx_code _ ((20, k) :: r) t = _
            rw [tx_simple (fun w => absurd w.1 (pne (by decide))) (pne (by decide)), txo_20]
          · exact ih r _ _ hrn hrc' (td_of (tl_byte hTL) (by omega)) hck
