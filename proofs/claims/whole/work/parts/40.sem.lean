/-! THE ROW'S MEANING, by what follows an instruction and by what its labels mean -/
abbrev Sg : Type := (Nat → Int32) × Option Int32 × (Nat → Int32) × (Nat → Int32) × Int32
abbrev Sg.st (σ : Sg) : Nat → Int32 := σ.1
abbrev Sg.pd (σ : Sg) : Option Int32 := σ.2.1
abbrev Sg.L (σ : Sg) : Nat → Int32 := σ.2.2.1
abbrev Sg.V (σ : Sg) : Nat → Int32 := σ.2.2.2.1
abbrev Sg.f (σ : Sg) : Int32 := σ.2.2.2.2
abbrev Rz : Type := Int32 × Int32 × Int32 × (Nat → Int32) × (Nat → Int32)
abbrev II : Type := Int32 × Int32
abbrev KK : Type := Sg → Option Rz
def s_pop (s : Nat → Int32) (j : Nat) : Nat → Int32 := fun i => s (i + j)
def s_psh (s : Nat → Int32) (v : Int32) : Nat → Int32 := fun i => if i = 0 then v else s (i - 1)
theorem s_psh0 (s : Nat → Int32) (v : Int32) : s_psh s v 0 = v := rfl
theorem s_psh1 (s : Nat → Int32) (v : Int32) : s_psh s v 1 = s 0 := rfl
theorem s_psh2 (s : Nat → Int32) (v : Int32) : s_psh s v 2 = s 1 := rfl
theorem s_pop0 (s : Nat → Int32) (j : Nat) : s_pop s j 0 = s j := by simp [s_pop]
theorem s_pop1 (s : Nat → Int32) (j : Nat) : s_pop s j 1 = s (1 + j) := rfl
theorem s_pp (s : Nat → Int32) (v : Int32) : s_pop (s_psh s v) 1 = s := by
  funext i; simp [s_pop, s_psh]
theorem s_pp2 (s : Nat → Int32) (v : Int32) : s_pop (s_psh s v) 2 = s_pop s 1 := by
  funext i; simp [s_pop, s_psh]
theorem s_eta (s : Nat → Int32) : s_psh (s_pop s 1) (s 0) = s := by
  funext i
  cases i <;> simp [s_pop, s_psh]
def one (Λ : Int32 → KK) (i : II) (κ : KK) : KK
  | ⟨st, some q, L, V, f⟩ => if i.1 = 12 then (if st 0 = q then Λ i.2 ⟨s_pop st 1, none, L, V, f⟩ else κ ⟨st, none, L, V, f⟩) else none
  | ⟨st, none, L, V, f⟩ =>
    if i.1 = 0 then κ ⟨s_psh st i.2, none, L, V, f⟩
    else if i.1 = 1 then κ ⟨s_psh st (mLa L i.2), none, L, V, f⟩
    else if i.1 = 2 then κ ⟨s_pop st 1, none, mL L i.2 (st 0), V, f⟩
    else if i.1 = 3 then (if m_hasW (st 0).toInt64 = true then κ ⟨s_psh (s_pop st 1) (mVa V (st 0)), none, L, V, f⟩ else some (2, 0, f, L, V))
    else if i.1 = 4 then (if m_hasW (st 0).toInt64 = true then κ ⟨s_pop st 2, none, L, mV V (st 0) (st 1), f⟩ else some (2, 0, f, L, V))
    else if i.1 = 5 then κ ⟨s_psh (s_pop st 1) (-st 0), none, L, V, f⟩
    else if i.1 = 6 then κ ⟨s_psh (s_pop st 1) (st 0 ^^^ (-1)), none, L, V, f⟩
    else if i.1 = 7 then (if st 0 = 0 ∧ a_divides i.2 = true then some (3, 0, f, L, V) else κ ⟨s_psh (s_pop st 2) (a_calc i.2 (st 1) (st 0)), none, L, V, f⟩)
    else if i.1 = 8 then κ ⟨s_psh (s_pop st 2) (a_compare i.2 (st 1) (st 0)), none, L, V, f⟩
    else if i.1 = 9 then κ ⟨s_psh (s_psh (s_pop st 2) (st 0)) (a_compare i.2 (st 1) (st 0)), none, L, V, f⟩
    else if i.1 = 10 then Λ i.2 ⟨st, none, L, V, f⟩
    else if i.1 = 11 then (if st 0 = 0 then Λ i.2 ⟨s_pop st 1, none, L, V, f⟩ else κ ⟨s_pop st 1, none, L, V, f⟩)
    else if i.1 = 12 then (if st 0 = 0 then κ ⟨s_pop st 1, none, L, V, f⟩ else Λ i.2 ⟨s_pop st 1, none, L, V, f⟩)
    else if i.1 = 13 then κ ⟨st, none, L, V, f⟩
    else if i.1 = 14 then κ ⟨s_pop st 1, none, L, V, f⟩
    else if i.1 = 15 then (if f = 0 then some (1, 0, f, L, V) else κ ⟨st, none, L, V, f - 1⟩)
    else if i.1 = 16 then some (0, st 0, f, L, V)
    else if i.1 = 17 then some (4, 0, f, L, V)
    else if i.1 = 18 then κ ⟨st, some i.2, L, V, f⟩
    else if i.1 = 19 then (if m_hasW (m_ba (st 0) (st 1)) = true then κ ⟨s_psh (s_pop st 2) (m_fb V (st 0) (st 1)), none, L, V, f⟩ else some (2, 0, f, L, V))
    else if i.1 = 20 then (if m_hasW (m_ba (st 0) (st 1)) = true then κ ⟨s_pop st 3, none, L, mV V (m_ba (st 0) (st 1)).toInt32 (m_sb V (st 0) (st 1) (st 2)), f⟩ else some (2, 0, f, L, V))
    else none
section ONE
variable (Λ : Int32 → KK) (κ : KK) (st : Nat → Int32) (L V : Nat → Int32) (f k : Int32)
theorem one_0 : one Λ (0, k) κ ⟨st, none, L, V, f⟩ = κ ⟨s_psh st k, none, L, V, f⟩ := rfl
theorem one_1 : one Λ (1, k) κ ⟨st, none, L, V, f⟩ = κ ⟨s_psh st (mLa L k), none, L, V, f⟩ := rfl
theorem one_5 : one Λ (5, k) κ ⟨st, none, L, V, f⟩ = κ ⟨s_psh (s_pop st 1) (-st 0), none, L, V, f⟩ := rfl
theorem one_6 : one Λ (6, k) κ ⟨st, none, L, V, f⟩ = κ ⟨s_psh (s_pop st 1) (st 0 ^^^ (-1)), none, L, V, f⟩ := rfl
theorem one_7 : one Λ (7, k) κ ⟨st, none, L, V, f⟩ = (if st 0 = 0 ∧ a_divides k = true then some (3, 0, f, L, V) else κ ⟨s_psh (s_pop st 2) (a_calc k (st 1) (st 0)), none, L, V, f⟩) := rfl
theorem one_8 : one Λ (8, k) κ ⟨st, none, L, V, f⟩ = κ ⟨s_psh (s_pop st 2) (a_compare k (st 1) (st 0)), none, L, V, f⟩ := rfl
theorem one_10 : one Λ (10, k) κ ⟨st, none, L, V, f⟩ = Λ k ⟨st, none, L, V, f⟩ := rfl
theorem one_11 : one Λ (11, k) κ ⟨st, none, L, V, f⟩ = (if st 0 = 0 then Λ k ⟨s_pop st 1, none, L, V, f⟩ else κ ⟨s_pop st 1, none, L, V, f⟩) := rfl
theorem one_12 : one Λ (12, k) κ ⟨st, none, L, V, f⟩ = (if st 0 = 0 then κ ⟨s_pop st 1, none, L, V, f⟩ else Λ k ⟨s_pop st 1, none, L, V, f⟩) := rfl
theorem one_13 : one Λ (13, k) κ ⟨st, none, L, V, f⟩ = κ ⟨st, none, L, V, f⟩ := rfl
theorem one_14 : one Λ (14, k) κ ⟨st, none, L, V, f⟩ = κ ⟨s_pop st 1, none, L, V, f⟩ := rfl
theorem one_pd (q : Int32) {a b : Int32} (h : ¬ a = 12) : one Λ (a, b) κ ⟨st, some q, L, V, f⟩ = none := by simp [one, h]
end ONE
theorem pne {a b c : Int32} (h : ¬ a = c) : ¬ ((a, b) : II).1 = c := h
def Ole (a b : Option Rz) : Prop := ∀ r, a = some r → b = some r
theorem Ole.refl (a : Option Rz) : Ole a a := fun _ h => h
theorem Ole.trans {a b c : Option Rz} (h1 : Ole a b) (h2 : Ole b c) : Ole a c := fun r h => h2 r (h1 r h)
theorem Ole.of_eq {a b : Option Rz} (h : a = b) : Ole a b := by rw [h]; exact Ole.refl b
theorem Ole.none (b : Option Rz) : Ole none b := fun r h => by cases h
theorem Ole.ite {c : Prop} [Decidable c] {a b a' b' : Option Rz} (h1 : c → Ole a a') (h2 : ¬ c → Ole b b') : Ole (if c then a else b) (if c then a' else b') := by
  by_cases h : c
  · rw [if_pos h, if_pos h]; exact h1 h
  · rw [if_neg h, if_neg h]; exact h2 h
/-- both what follows and what labels mean may be exchanged -/
theorem one_le {Λ Λ' : Int32 → KK} {n k k' : Int32} {κ κ' : KK} (hΛ : t_goes n = true → ∀ σ : Sg, σ.pd = none → Ole (Λ k σ) (Λ' k' σ)) (hk : t_goes n = false → k' = k) (hκ : ∀ σ : Sg, (n = 18 ∨ σ.pd = none) → Ole (κ σ) (κ' σ)) (σ : Sg) : Ole (one Λ (n, k) κ σ) (one Λ' (n, k') κ' σ) := by
  obtain ⟨st, pd, L, V, f⟩ := σ
  cases hg : t_goes n with
  | true =>
    have hn : n = 10 ∨ n = 11 ∨ n = 12 := by simpa [t_goes] using hg
    cases pd with
    | some q =>
      simp only [one]
      refine Ole.ite (fun _ => Ole.ite (fun _ => hΛ hg _ rfl) (fun _ => hκ _ (.inr rfl))) (fun _ => Ole.none _)
    | none =>
      rcases hn with rfl | rfl | rfl
      · rw [one_10, one_10]; exact hΛ hg _ rfl
      · rw [one_11, one_11]; exact Ole.ite (fun _ => hΛ hg _ rfl) (fun _ => hκ _ (.inr rfl))
      · rw [one_12, one_12]; exact Ole.ite (fun _ => hκ _ (.inr rfl)) (fun _ => hΛ hg _ rfl)
  | false =>
    have hk := hk hg
    subst hk
    have hn : ¬ n = 10 ∧ ¬ n = 11 ∧ ¬ n = 12 := by simpa [t_goes] using hg
    cases pd with
    | some q => rw [one_pd _ _ _ _ _ _ _ hn.2.2]; exact Ole.none _
    | none =>
      simp only [one, hn.1, hn.2.1, hn.2.2, if_false]
      repeat' (refine Ole.ite (fun _ => ?_) (fun _ => ?_))
      all_goals first
        | exact hκ _ (.inr rfl)
        | exact Ole.refl _
        | exact hκ _ (.inl (by assumption))
def rk (Λ : Int32 → KK) : List II → KK → KK
  | [], κ => κ
  | i :: r, κ => rk Λ r (one Λ i κ)
def fk (Λ : Int32 → KK) : List II → KK → KK
  | [], κ => κ
  | i :: t, κ => one Λ i (fk Λ t κ)
theorem fk_app (Λ : Int32 → KK) (a b : List II) (κ : KK) : fk Λ (a ++ b) κ = fk Λ a (fk Λ b κ) := by
  induction a with
  | nil => rfl
  | cons i a ih => simp only [List.cons_append, fk, ih]
theorem rk_fk (Λ : Int32 → KK) (r : List II) (κ : KK) : rk Λ r κ = fk Λ r.reverse κ := by
  induction r generalizing κ with
  | nil => rfl
  | cons i r ih => simp only [rk, ih, List.reverse_cons, fk_app, fk]
theorem rk_app (Λ : Int32 → KK) (a b : List II) (κ : KK) : rk Λ (a ++ b) κ = rk Λ b (rk Λ a κ) := by
  simp only [rk_fk, List.reverse_append, fk_app]
theorem one_mono {Λ : Int32 → KK} {i : II} {κ κ' : KK} (hκ : ∀ σ : Sg, (i.1 = 18 ∨ σ.pd = none) → Ole (κ σ) (κ' σ)) (σ : Sg) : Ole (one Λ i κ σ) (one Λ i κ' σ) :=
  one_le (fun _ _ _ => Ole.refl _) (fun _ => rfl) hκ σ
theorem rk_mono {Λ : Int32 → KK} {r : List II} {κ κ' : KK} (hκ : ∀ σ : Sg, Ole (κ σ) (κ' σ)) (σ : Sg) : Ole (rk Λ r κ σ) (rk Λ r κ' σ) := by
  induction r generalizing κ κ' with
  | nil => exact hκ σ
  | cons i r ih => exact ih (fun σ => one_mono (fun σ _ => hκ σ) σ)
def q0 (r : List II) (j : Nat) : II := r.getD j (-1, -1)
theorem rk_mono' {Λ : Int32 → KK} {r : List II} {κ κ' : KK} (hr : ¬ (q0 r 0).1 = 18) (hκ : ∀ σ : Sg, σ.pd = none → Ole (κ σ) (κ' σ)) (σ : Sg) (hσ : σ.pd = none) : Ole (rk Λ r κ σ) (rk Λ r κ' σ) := by
  cases r with
  | nil => exact hκ σ hσ
  | cons i r => exact rk_mono (fun σ => one_mono (fun σ h => hκ σ (h.resolve_left hr)) σ) σ
theorem fk_le {Λ Λ' : Int32 → KK} (t : List II) (hΛ : ∀ (k : Int32) (σ : Sg), σ.pd = none → Ole (Λ k σ) (Λ' k σ)) {κ κ' : KK} (hκ : ∀ σ : Sg, Ole (κ σ) (κ' σ)) (σ : Sg) : Ole (fk Λ t κ σ) (fk Λ' t κ' σ) := by
  induction t generalizing σ with
  | nil => exact hκ σ
  | cons i t ih => exact one_le (fun _ σ h => hΛ _ σ h) (fun _ => rfl) (fun σ _ => ih σ) σ
def bot : KK := fun _ => none
/-- what lies behind a label -/
def after : List II → Int32 → Option (List II)
  | [], _ => none
  | i :: t, k => if i.1 = 13 ∧ i.2 = k then some t else after t k
/-- what a label means, so many jumps at most -/
def Lv (c : List II) : Nat → Int32 → KK
  | 0, _ => bot
  | n + 1, k => fun σ => match after c k with
    | some t => fk (Lv c n) t bot σ
    | none => none
theorem Lv_succ {c : List II} {n : Nat} {k : Int32} {t : List II} (h : after c k = some t) (σ : Sg) : Lv c (n + 1) k σ = fk (Lv c n) t bot σ := by
  simp only [Lv, h]
theorem Lv_mono (c : List II) : ∀ (n : Nat) (k : Int32) (σ : Sg), Ole (Lv c n k σ) (Lv c (n + 1) k σ) := by
  intro n
  induction n with
  | zero => intro k σ; exact Ole.none _
  | succ n ih =>
    intro k σ
    cases h : after c k with
    | none => simp only [Lv, h]; exact Ole.none _
    | some t =>
      rw [Lv_succ h, Lv_succ h]
      exact fk_le t (fun k σ _ => ih k σ) (fun _ => Ole.refl _) σ
theorem Lv_mono' (c : List II) {n m : Nat} (h : n ≤ m) (k : Int32) (σ : Sg) : Ole (Lv c n k σ) (Lv c m k σ) := by
  induction h with
  | refl => exact Ole.refl _
  | step _ ih => exact ih.trans (Lv_mono c _ k σ)
theorem after_split {c : List II} {k : Int32} {t : List II} (h : after c k = some t) : ∃ p, c = p ++ (13, k) :: t ∧ ∀ i ∈ p, ¬ (i.1 = 13 ∧ i.2 = k) := by
  induction c with
  | nil => cases h
  | cons i c ih =>
    rw [after] at h
    by_cases hi : i.1 = 13 ∧ i.2 = k
    · rw [if_pos hi] at h
      cases h
      refine ⟨[], ?_, by simp⟩
      rw [← hi.1, ← hi.2]; rfl
    · rw [if_neg hi] at h
      obtain ⟨p, h1, h2⟩ := ih h
      refine ⟨i :: p, by rw [h1]; rfl, fun j hj => ?_⟩
      rcases List.mem_cons.mp hj with rfl | hj
      · exact hi
      · exact h2 j hj
theorem after_of {p t : List II} {k : Int32} (h : ∀ i ∈ p, ¬ (i.1 = 13 ∧ i.2 = k)) : after (p ++ (13, k) :: t) k = some t := by
  induction p with
  | nil => simp [after]
  | cons i p ih =>
    rw [List.cons_append, after, if_neg (h i (List.mem_cons_self ..))]
    exact ih (fun j hj => h j (List.mem_cons_of_mem _ hj))
