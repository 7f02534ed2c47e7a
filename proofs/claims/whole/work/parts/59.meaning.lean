/-! WHAT THE TWO REGISTERS' CODE MEANS -/
def afterM : List II → Int32 → Option (List II)
  | [], _ => none
  | i :: t, k => if i.1 = 0 ∧ i.2 = k then some t else afterM t k
def LvM (c : List II) : Nat → Int32 → KM
  | 0, _ => botM
  | n + 1, k => fun m => match afterM c k with
    | some t => fkM (LvM c n) t botM m
    | none => none
theorem LvM_succ {c : List II} {n : Nat} {k : Int32} {t : List II} (h : afterM c k = some t) (m : MM) : LvM c (n + 1) k m = fkM (LvM c n) t botM m := by
  simp only [LvM, h]
theorem afterM_of {p t : List II} {k : Int32} (h : ∀ i ∈ p, ¬ (i.1 = 0 ∧ i.2 = k)) : afterM (p ++ (0, k) :: t) k = some t := by
  induction p with
  | nil => simp [afterM]
  | cons i p ih =>
    rw [List.cons_append, afterM, if_neg (h i (List.mem_cons_self ..))]
    exact ih (fun j hj => h j (List.mem_cons_of_mem _ hj))
theorem afterM_split {c : List II} {k : Int32} {t : List II} (h : afterM c k = some t) : ∃ p, c = p ++ (0, k) :: t := by
  induction c with
  | nil => cases h
  | cons i c ih =>
    rw [afterM] at h
    by_cases hi : i.1 = 0 ∧ i.2 = k
    · rw [if_pos hi] at h
      cases h
      refine ⟨[], ?_⟩
      rw [← hi.1, ← hi.2]; rfl
    · rw [if_neg hi] at h
      obtain ⟨p, h1⟩ := ih h
      exact ⟨i :: p, by rw [h1]; rfl⟩
def MU (c : List II) : Prop := (c.filter mk0).Nodup
theorem MU_first {p t : List II} {k : Int32} (h : MU (p ++ (0, k) :: t)) : ∀ i ∈ p, ¬ (i.1 = 0 ∧ i.2 = k) := by
  intro i hi w
  have e : i = (0, k) := Prod.ext w.1 w.2
  subst e
  unfold MU at h
  rw [List.filter_append, List.filter_cons, if_pos (show mk0 (0, k) = true from rfl), List.nodup_append] at h
  exact h.2.2 (0, k) (List.mem_filter.mpr ⟨hi, rfl⟩) (0, k) (List.mem_cons_self ..) rfl
theorem MU_of {c e : List II} (h : LU c) (hm : e.filter mk0 = (c.filter lab).map fun i => (0, i.2)) : MU e := by
  unfold MU
  rw [hm]
  unfold LU at h
  refine List.Pairwise.map _ ?_ (List.Pairwise.imp_of_mem ?_ h) (S := fun a b : II => a ≠ b) (R := fun a b : II => a.2 ≠ b.2)
  · intro a b hab w
    exact hab (Prod.mk.inj w).2
  · intro a b ha hb hab w
    have h1 := (List.mem_filter.mp ha).2
    have h2 := (List.mem_filter.mp hb).2
    simp only [lab, decide_eq_true_eq] at h1 h2
    exact hab (Prod.ext (h1.trans h2.symm) w)
theorem td_0 (s : Nat) : TD (TR 0) (some (0, s, false)) := ⟨tw_row [] (by omega), .inr ⟨s, rfl⟩⟩
/-- the code written: what it means, and what is known of it -/
theorem trans_sem {C : CP} {c : List II} (h60 : ∀ k, C.hh k ≤ 60) (g : Good C c) :
    (∀ n (σ : Sg) (m : MM), Rel (TR 0) σ m → Ole (fk (Lv c n) c bot σ) (fkM (LvM (tx_code (fun k => nI (C.hh k)) c (TR 0)).1 n) (tx_code (fun k => nI (C.hh k)) c (TR 0)).1 botM m)) ∧
    MU (tx_code (fun k => nI (C.hh k)) c (TR 0)).1 ∧ (∀ i ∈ (tx_code (fun k => nI (C.hh k)) c (TR 0)).1, okM i) ∧ fckM C (tx_code (fun k => nI (C.hh k)) c (TR 0)).1 (some C.W) = some none ∧
    (tx_code (fun k => nI (C.hh k)) c (TR 0)).1.filter mk0 = (c.filter lab).map fun i => (0, i.2) := by
  have base : ∀ (Λ : Int32 → KK) (ΛM : Int32 → KM), (∀ k, goals c k → ∀ σ m, Rel (TR (C.hh k)) σ m → Ole (Λ k σ) (ΛM k m)) → CS C Λ ΛM c (TR 0) (some (0, C.W, false)) (tx_code (fun k => nI (C.hh k)) c (TR 0)).1 := by
    intro Λ ΛM hJ
    obtain ⟨e, h1, h2⟩ := code_cs h60 g.fit hJ c.length c (TR 0) (some (0, C.W, false)) (Nat.le_refl _) (fun i hi => hi) (td_0 C.W) g.ok
    have h1 : (tx_code (fun k => nI (C.hh k)) c (TR 0)).1 = e := h1
    rw [h1]
    exact h2
  generalize (tx_code (fun k => nI (C.hh k)) c (TR 0)).1 = ms at *
  have b0 := base (fun _ => bot) (fun _ => botM) (fun _ _ _ _ _ => Ole.none _)
  have hMU : MU ms := MU_of g.lu b0.mk
  have J : ∀ n k, (∃ r, after c k = some r) → ∀ σ m, Rel (TR (C.hh k)) σ m → Ole (Lv c n k σ) (LvM ms n k m) := by
    intro n
    induction n with
    | zero => intro k _ σ m _; exact Ole.none _
    | succ n ih =>
      rintro k ⟨r, hr⟩ σ m hR
      have b := base (Lv c n) (LvM ms n) (fun k hk => ih k (g.jp k hk))
      obtain ⟨p, hp, -⟩ := after_split hr
      obtain ⟨e1, e2, h3, h4⟩ := b.at_ p k r hp
      have ha : afterM ms k = some e2 := by
        rw [h3] at hMU ⊢
        exact afterM_of (MU_first hMU)
      rw [Lv_succ hr, LvM_succ ha]
      exact h4 σ m hR
  refine ⟨fun n σ m hR => ?_, hMU, b0.ok, b0.ckM, b0.mk⟩
  exact (base (Lv c n) (LvM ms n) (fun k hk => J n k (g.jp k hk))).sim σ m (by simp) hR
