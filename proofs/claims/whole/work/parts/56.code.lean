/-! A WHOLE CODE turned over -/
def tx_code (dl : Int32 → Int32) : List II → TX → TX
  | [], t => t
  | [i], t => if i.1 = 18 then tx_case t i.2 (-1) else tx_one dl t i
  | i :: j :: r, t => if i.1 = 8 ∧ t_cond j.1 = true then tx_code dl r (tx_cgo t i.2 j.1 j.2) else if i.1 = 18 then tx_code dl r (tx_case t i.2 j.2) else tx_code dl (j :: r) (tx_one dl t i)
/-- the same numbers, falling along the two registers' code -/
def ckM (C : CP) : Option Nat → II → Option (Option Nat)
  | none, i => if i.1 = 0 then some (some (C.rho i.2)) else none
  | some B, i => if i.1 = 0 then (if C.rho i.2 < B then some (some (C.rho i.2)) else none)
    else if i.1 = 17 then some (some C.W) else if i.1 = 18 ∨ i.1 = 19 then some none
    else if i.1 = 20 then (if C.rho i.2 < B then some none else none)
    else if 20 < i.1 then (if C.rho i.2 < B then some (some B) else none)
    else some (some B)
def fckM (C : CP) : List II → Option Nat → Option (Option Nat)
  | [], s => some s
  | i :: t, s => (ckM C s i).bind fun u => fckM C t u
theorem fckM_app (C : CP) (a b : List II) (s : Option Nat) : fckM C (a ++ b) s = (fckM C a s).bind fun u => fckM C b u := by
  induction a generalizing s with
  | nil => rfl
  | cons i a ih =>
    simp only [List.cons_append, fckM]
    cases ckM C s i with
    | none => rfl
    | some u => exact ih u
theorem fckM_quiet {C : CP} {e : List II} (h : quiet e) (B : Nat) : fckM C e (some B) = some (some B) := by
  induction e with
  | nil => rfl
  | cons i e ih =>
    have hi := h i (List.mem_cons_self ..)
    have h0 : ¬ i.1 = 0 := fun c => hi.1 (by rw [c]; decide)
    have h17 : ¬ i.1 = 17 := fun c => absurd hi.2 (by rw [c]; decide)
    have h18 : ¬ (i.1 = 18 ∨ i.1 = 19) := by rintro (c | c) <;> exact absurd hi.2 (by rw [c]; decide)
    have h20 : ¬ i.1 = 20 := fun c => absurd hi.2 (by rw [c]; decide)
    have h21 : ¬ 20 < i.1 := fun c => absurd (Int32.lt_trans c hi.2) (by decide)
    have e1 : ckM C (some B) i = some (some B) := by simp only [ckM, h0, h17, h18, h20, h21, if_false]
    rw [fckM, e1]
    exact ih (fun j hj => h j (List.mem_cons_of_mem _ hj))
/-- numbers of the two registers' code and their arguments: as they are written -/
abbrev ok2 (n k : Int32) : Prop := ¬ n < 0 ∧ n < 29 ∧ (n = 0 ∨ 19 < n → ¬ k < 0 ∧ k < 100)
abbrev okM (i : II) : Prop := ok2 i.1 i.2
theorem quiet_ok {e : List II} (h : quiet e) : ∀ i ∈ e, okM i := by
  intro i hi
  have h1 := h i hi
  refine ⟨fun c => h1.1 (Int32.lt_trans c (by decide)), Int32.lt_trans h1.2 (by decide), ?_⟩
  rintro (c | c)
  · exact absurd (by rw [c]; decide) h1.1
  · exact absurd (Int32.lt_trans c h1.2) (by decide)
def mk0 (i : II) : Bool := decide (i.1 = 0)
theorem quiet_mk {e : List II} (h : quiet e) : e.filter mk0 = [] := by
  rw [List.filter_eq_nil_iff]
  intro i hi
  have h1 := h i hi
  simp only [mk0, decide_eq_true_eq]
  intro c
  exact h1.1 (by rw [c]; decide)
def botM : KM := fun _ => none
def TD (t : TX) (s : CK) : Prop := TW t ∧ ((s = none ∧ t.2.1.length = 0) ∨ ∃ B, s = some (t.2.1.length, B, false))
/-- what is known of the code behind a place: e is written for r; s: the row's length there -/
abbrev CS (C : CP) (Λ : Int32 → KK) (ΛM : Int32 → KM) (r : List II) (t : TX) (s : CK) (e : List II) : Prop :=
  (∀ σ m, s ≠ none → Rel t σ m → Ole (fk Λ r bot σ) (fkM ΛM e botM m)) ∧
  (∀ p k r', r = p ++ (13, k) :: r' → ∃ e1 e2, e = e1 ++ (0, k) :: e2 ∧ ∀ σ m, Rel (TR (C.hh k)) σ m → Ole (fk Λ r' bot σ) (fkM ΛM e2 botM m)) ∧
  (e.filter mk0 = (r.filter lab).map fun i => (0, i.2)) ∧
  (∀ i ∈ e, okM i) ∧
  (fckM C e (s.map fun x => x.2.1) = some none)
theorem CS.sim {C : CP} {Λ : Int32 → KK} {ΛM : Int32 → KM} {r : List II} {t : TX} {s : CK} {e : List II} (w : CS C Λ ΛM r t s e) : ∀ σ m, s ≠ none → Rel t σ m → Ole (fk Λ r bot σ) (fkM ΛM e botM m) := w.1
theorem CS.at_ {C : CP} {Λ : Int32 → KK} {ΛM : Int32 → KM} {r : List II} {t : TX} {s : CK} {e : List II} (w : CS C Λ ΛM r t s e) : ∀ p k r', r = p ++ (13, k) :: r' → ∃ e1 e2, e = e1 ++ (0, k) :: e2 ∧ ∀ σ m, Rel (TR (C.hh k)) σ m → Ole (fk Λ r' bot σ) (fkM ΛM e2 botM m) := w.2.1
theorem CS.mk {C : CP} {Λ : Int32 → KK} {ΛM : Int32 → KM} {r : List II} {t : TX} {s : CK} {e : List II} (w : CS C Λ ΛM r t s e) : e.filter mk0 = (r.filter lab).map fun i => (0, i.2) := w.2.2.1
theorem CS.ok {C : CP} {Λ : Int32 → KK} {ΛM : Int32 → KM} {r : List II} {t : TX} {s : CK} {e : List II} (w : CS C Λ ΛM r t s e) : ∀ i ∈ e, okM i := w.2.2.2.1
theorem CS.ckM {C : CP} {Λ : Int32 → KK} {ΛM : Int32 → KM} {r : List II} {t : TX} {s : CK} {e : List II} (w : CS C Λ ΛM r t s e) : fckM C e (s.map fun x => x.2.1) = some none := w.2.2.2.2
/-- one instruction and the rest -/
theorem CS_step {C : CP} {Λ : Int32 → KK} {ΛM : Int32 → KM} {x : List II} {F : KK → KK} {t t' : TX} {a r : List II} {s s' : CK} {e : List II} {d B : Nat} (hs : s = some (d, B, false)) (hF : ∀ κ, fk Λ (a ++ r) κ = F (fk Λ r κ)) (ha : ∀ i ∈ a, ¬ i.1 = 13) (S : Sm x F ΛM t t') (hx : ∀ i ∈ x, okM i ∧ ¬ i.1 = 0) (hck : fckM C x (some B) = some (s'.map fun x => x.2.1))
    (hn : s' = none → ∀ κ κ' : KK, F κ = F κ') (H : CS C Λ ΛM r t' s' e) : ∃ e', t'.1 ++ e = t.1 ++ e' ∧ CS C Λ ΛM (a ++ r) t s e' := by
  obtain ⟨q, hq, h1, h2⟩ := S
  refine ⟨(q ++ x) ++ e, by rw [h1, List.append_assoc], ⟨fun σ m _ hR => ?_, fun p k r' hp => ?_, ?_, ?_, ?_⟩⟩
  · rw [hF, fkM_app]
    rcases s' with _ | y
    · rw [hn rfl _ bot]
      exact h2 bot (fkM ΛM e botM) (fun _ _ _ => Ole.none _) σ m hR
    · exact h2 _ _ (fun σ m hR => H.sim σ m (by simp) hR) σ m hR
  · have : ∃ p', r = p' ++ (13, k) :: r' := by
      clear H hF
      induction a generalizing p with
      | nil => exact ⟨p, hp⟩
      | cons i a ih =>
        cases p with
        | nil =>
          have := (List.cons.inj hp).1
          exact absurd (by rw [this]) (ha i (List.mem_cons_self ..))
        | cons j p => exact ih (fun i hi => ha i (List.mem_cons_of_mem _ hi)) p (List.cons.inj hp).2
    obtain ⟨p', hp'⟩ := this
    obtain ⟨e1, e2, h3, h4⟩ := H.at_ p' k r' hp'
    exact ⟨(q ++ x) ++ e1, e2, by rw [h3]; simp, h4⟩
  · have h3 : x.filter mk0 = [] := by
      rw [List.filter_eq_nil_iff]
      intro i hi
      simp only [mk0, decide_eq_true_eq]
      exact (hx i hi).2
    have h4 : a.filter lab = [] := by
      rw [List.filter_eq_nil_iff]
      intro i hi
      simp only [lab, decide_eq_true_eq]
      exact ha i hi
    rw [List.filter_append, List.filter_append, quiet_mk hq, h3, H.mk, List.filter_append, h4]
    rfl
  · intro i hi
    rcases List.mem_append.mp hi with w | w
    · rcases List.mem_append.mp w with w | w
      · exact quiet_ok hq i w
      · exact (hx i w).1
    · exact H.ok i w
  · rw [hs, fckM_app, fckM_app]
    show ((fckM C q (some B)).bind _).bind _ = _
    rw [fckM_quiet hq]
    show (fckM C x (some B)).bind _ = _
    rw [hck]
    exact H.ckM
