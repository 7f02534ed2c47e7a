/-! THE MACHINE runs the loaded code: it comes to the end in time -/
theorem cnt_lt {l : List Nat} {P Q : Nat → Bool} (h : ∀ q, P q = true → Q q = true) {j : Nat} (hj : j ∈ l) (hQ : Q j = true) (hP : P j = false) : l.countP P < l.countP Q := by
  induction l with
  | nil => cases hj
  | cons a l ih =>
    have hle : l.countP P ≤ l.countP Q := List.countP_mono_left (fun q _ => h q)
    rw [List.countP_cons, List.countP_cons]
    rcases List.mem_cons.mp hj with rfl | hj
    · rw [hQ, hP]; simp; omega
    · have := ih hj
      cases hp : P a with
      | true => rw [h a hp]; simp; omega
      | false => simp; omega
def pot (K : Nat → Nat) (size j : Nat) : Nat := (List.range size).countP fun q => decide (K q < K j)
theorem pot_lt {K : Nat → Nat} {size j j' : Nat} (h : K j' < K j) (hj : j' < size) : pot K size j' < pot K size j :=
  cnt_lt (fun q hq => by simp only [decide_eq_true_eq] at hq ⊢; omega) (List.mem_range.mpr hj) (by simpa using h) (by simp)
theorem pot_size {K : Nat → Nat} {size j : Nat} (hj : j < size) : pot K size j < size := by
  have := cnt_lt (l := List.range size) (P := fun q => decide (K q < K j)) (Q := fun _ => true) (fun _ _ => rfl) (List.mem_range.mpr hj) rfl (by simp)
  rw [List.countP_true, List.length_range] at this
  exact this
/-- how many of them are instructions and no marks -/
def cnt (p : List II) : Nat := p.countP fun i => !mk0 i
theorem cnt_app (a b : List II) : cnt (a ++ b) = cnt a + cnt b := List.countP_append
theorem cnt_m (k : Int32) : cnt [(0, k)] = 0 := rfl
theorem cnt_i {i : II} (h : ¬ i.1 = 0) : cnt [i] = 1 := by simp [cnt, mk0, h]
/-- the bound in force at each instruction -/
def bnd (C : CP) : List II → Option Nat → List Nat
  | [], _ => []
  | i :: t, s => if i.1 = 0 then bnd C t ((ckM C s i).getD none) else s.getD 0 :: bnd C t ((ckM C s i).getD none)
theorem bnd_len (C : CP) (t : List II) : ∀ s, (bnd C t s).length = cnt t := by
  induction t with
  | nil => intro s; rfl
  | cons i t ih =>
    intro s
    rw [bnd]
    have e : cnt (i :: t) = cnt [i] + cnt t := cnt_app [i] t
    by_cases h : i.1 = 0
    · rw [if_pos h, ih, e]
      have : cnt [i] = 0 := by simp [cnt, mk0, h]
      omega
    · rw [if_neg h, List.length_cons, ih, e, cnt_i h]; omega
theorem bnd_app (C : CP) (p t : List II) : ∀ s s', fckM C p s = some s' → bnd C (p ++ t) s = bnd C p s ++ bnd C t s' := by
  induction p with
  | nil => intro s s' h; cases h; rfl
  | cons i p ih =>
    intro s s' h
    rw [fckM] at h
    cases hi : ckM C s i with
    | none => rw [hi] at h; cases h
    | some u =>
      rw [hi] at h
      have h : fckM C p u = some s' := h
      rw [List.cons_append, bnd, bnd, hi]
      simp only [Option.getD_some]
      rw [ih u s' h]
      split
      · rfl
      · rfl
theorem bnd_head {C : CP} (t : List II) : ∀ B, fckM C t (some B) = some none → ∃ h r, bnd C t (some B) = h :: r ∧ h ≤ B := by
  induction t with
  | nil => intro B h; cases h
  | cons i t ih =>
    intro B h
    rw [bnd]
    by_cases h0 : i.1 = 0
    · rw [if_pos h0]
      rw [fckM] at h
      have e : ckM C (some B) i = (if C.rho i.2 < B then some (some (C.rho i.2)) else none) := by simp only [ckM, h0, if_true]
      rw [e] at h ⊢
      by_cases c : C.rho i.2 < B
      · rw [if_pos c] at h ⊢
        obtain ⟨x, r, h1, h2⟩ := ih _ h
        exact ⟨x, r, h1, by omega⟩
      · rw [if_neg c] at h; cases h
    · rw [if_neg h0]
      exact ⟨B, _, rfl, Nat.le_refl _⟩
theorem fckM_at {C : CP} {p t : List II} {s e : Option Nat} (h : fckM C (p ++ t) s = some e) : ∃ u, fckM C p s = some u ∧ fckM C t u = some e := by
  rw [fckM_app] at h
  cases h1 : fckM C p s with
  | none => rw [h1] at h; cases h
  | some u => rw [h1] at h; exact ⟨u, rfl, h⟩
theorem setat_move (m : MM) (x n k : Int32) : m_move (m_setat m x) n k = m_setat (m_move m n k) x := by
  obtain ⟨sl, a, b, pq, sa, ev, fl, L, V⟩ := m
  show m_move (sl, a, b, x, sa, ev, fl, L, V) n k = _
  rw [m_move, m_move]
  repeat' split
  all_goals rfl
theorem setat_work (m : MM) (x n k : Int32) : m_work (m_setat m x) n k = m_setat (m_work m n k) x := by
  obtain ⟨sl, a, b, pq, sa, ev, fl, L, V⟩ := m
  show m_work (sl, a, b, x, sa, ev, fl, L, V) n k = _
  rw [m_work, m_work]
  simp only [apply_ite (fun m => m_setat m x)]
  rfl
theorem setat_at (m : MM) (x y : Int32) : m_setat (m_setat m x) y = m_setat m y := rfl
theorem setat_R (m : MM) (x : Int32) : mR (m_setat m x) = mR m := rfl
theorem work_fl (m : MM) {n k : Int32} (h : ¬ n = 17) : (m_work m n k).2.2.2.2.2.2.1 = m.2.2.2.2.2.2.1 := by
  obtain ⟨sl, a, b, pq, sa, ev, fl, L, V⟩ := m
  rw [m_work, if_neg h]
  simp only [apply_ite (fun m : MM => m.2.2.2.2.2.2.1)]
  simp
/-- the loaded code: numbers and arguments -/
abbrev PR (ms : List II) (pn pa : List Int32) : Prop :=
  pn.length = cnt ms ∧ ∀ p i t, ms = p ++ i :: t → ¬ i.1 = 0 → nAt pn (nI (cnt p)) = i.1 ∧ (i.1 < 20 → nAt pa (nI (cnt p)) = i.2) ∧ (¬ i.1 < 20 → ∀ q t', ms = q ++ (0, i.2) :: t' → nAt pa (nI (cnt p)) = nI (cnt q))
theorem exec_ok {C : CP} {ms : List II} {pn pa : List Int32} (hP : PR ms pn pa) (hok : ∀ i ∈ ms, okM i) (hck : fckM C ms (some C.W) = some none) :
    ∀ (n : Nat) (t p : List II) (m : MM) (F B : Nat) (R : Rz), ms = p ++ t → fckM C p (some C.W) = some (some B) → fkM (LvM ms n) t botM m = some R → m.2.2.2.2.1 = -1 → m.2.2.2.2.2.2.1 = nI F → F < 2 ^ 31 →
      cnt p < cnt ms ∧ ∃ N, N ≤ F * (cnt ms + 1) + pot (fun j => (bnd C ms (some C.W)).getD j 0 * (cnt ms + 1) + (cnt ms - j)) (cnt ms) (cnt p) + 1 ∧
      (m_exec pn pa N (m_setat m (nI (cnt p)))).2.2.2.2.1 ≠ -1 ∧ mR (m_exec pn pa N (m_setat m (nI (cnt p)))) = R := by
  generalize hK : (fun j => (bnd C ms (some C.W)).getD j 0 * (cnt ms + 1) + (cnt ms - j)) = K
  have Kdef : ∀ j, K j = (bnd C ms (some C.W)).getD j 0 * (cnt ms + 1) + (cnt ms - j) := fun j => by rw [← hK]
  -- the bound at the next instruction
  have hB : ∀ (p t : List II) (B : Nat), ms = p ++ t → fckM C p (some C.W) = some (some B) → cnt p < cnt ms ∧ (bnd C ms (some C.W)).getD (cnt p) 0 ≤ B := by
    intro p t B hp h1
    have h2 : fckM C t (some B) = some none := by
      rw [hp] at hck
      obtain ⟨u, a1, a2⟩ := fckM_at hck
      rw [h1] at a1
      cases a1
      exact a2
    obtain ⟨h, r, h3, h4⟩ := bnd_head t B h2
    have h5 := bnd_app C p t _ _ h1
    have h6 := bnd_len C p (some C.W)
    have h7 := bnd_len C t (some B)
    rw [h3] at h5 h7
    rw [hp, h5]
    constructor
    · rw [cnt_app, ← h7, List.length_cons]; omega
    · rw [List.getD_eq_getElem?_getD, ← h6, List.getElem?_append_right (Nat.le_refl _), Nat.sub_self]
      exact h4
  have mark : ∀ (q t : List II) (k : Int32), ms = q ++ (0, k) :: t → fckM C (q ++ [(0, k)]) (some C.W) = some (some (C.rho k)) := by
    intro q t k hq
    have hq' : ms = (q ++ [(0, k)]) ++ t := by rw [hq]; simp
    have hck' := hck
    rw [hq'] at hck'
    obtain ⟨u, a1, -⟩ := fckM_at hck'
    rw [a1]
    obtain ⟨u2, b1, b2⟩ := fckM_at a1
    rw [fckM] at b2
    cases u2 with
    | none =>
      have e : ckM C none (0, k) = some (some (C.rho k)) := rfl
      rw [e] at b2
      exact b2.symm
    | some B =>
      have e : ckM C (some B) (0, k) = (if C.rho k < B then some (some (C.rho k)) else none) := rfl
      rw [e] at b2
      by_cases c : C.rho k < B
      · rw [if_pos c] at b2; exact b2.symm
      · rw [if_neg c] at b2; cases b2
  intro n
  induction n using Nat.strongRecOn with
  | ind n ihn =>
  intro t
  induction t with
  | nil => intro p m F B R _ _ h; cases h
  | cons i t ih =>
    intro p m F B R hp hc h hs hf hF
    obtain ⟨a, k⟩ := i
    have hlt := (hB p _ B hp hc).1
    refine ⟨hlt, ?_⟩
    have hoki : ok2 a k := hok (a, k) (by rw [hp]; simp)
    have hp' : ms = (p ++ [(a, k)]) ++ t := by rw [hp]; simp
    -- the bound behind it
    have hnx : ∃ v, ckM C (some B) (a, k) = some v ∧ fckM C (p ++ [(a, k)]) (some C.W) = some v := by
      have hck' := hck
      rw [hp'] at hck'
      obtain ⟨u, a1, -⟩ := fckM_at hck'
      have a2 := a1
      rw [fckM_app, hc] at a2
      have a2 : fckM C [(a, k)] (some B) = some u := a2
      rw [fckM] at a2
      cases hv : ckM C (some B) (a, k) with
      | none => rw [hv] at a2; cases a2
      | some v =>
        rw [hv] at a2
        have a2 : some v = some u := a2
        exact ⟨v, rfl, by rw [a1, a2]⟩
    obtain ⟨v, hv, hcv⟩ := hnx
    by_cases h0 : a = 0
    · subst h0
      have hcm : cnt (p ++ [(0, k)]) = cnt p := by rw [cnt_app, cnt_m, Nat.add_zero]
      have := (ih (p ++ [(0, k)]) m F (C.rho k) R hp' (mark p t k hp) h hs hf hF).2
      rw [hcm] at this
      exact this
    have hcm : cnt (p ++ [(a, k)]) = cnt p + 1 := by rw [cnt_app, cnt_i (i := (a, k)) h0]
    obtain ⟨q1, q2, q3⟩ := hP.2 p (a, k) t hp h0
    simp only at q1 q2 q3
    have hBj : (bnd C ms (some C.W)).getD (cnt p) 0 = B := by
      have h5 := bnd_app C p ((a, k) :: t) _ _ hc
      rw [← hp] at h5
      have e : bnd C ((a, k) :: t) (some B) = B :: bnd C t ((ckM C (some B) (a, k)).getD none) := by
        rw [bnd, if_neg (pne h0)]; rfl
      rw [h5, e, List.getD_eq_getElem?_getD, ← bnd_len C p (some C.W), List.getElem?_append_right (Nat.le_refl _), Nat.sub_self]
      rfl
    have hless : ∀ j' : Nat, (bnd C ms (some C.W)).getD j' 0 ≤ B → cnt p < j' → j' < cnt ms → pot K (cnt ms) j' < pot K (cnt ms) (cnt p) := by
      intro j' h1 h2 h3
      refine pot_lt ?_ h3
      rw [Kdef, Kdef, hBj]
      have := Nat.mul_le_mul_right (cnt ms + 1) h1
      omega
    have hless2 : ∀ j' : Nat, (bnd C ms (some C.W)).getD j' 0 < B → j' < cnt ms → pot K (cnt ms) j' < pot K (cnt ms) (cnt p) := by
      intro j' h1 h3
      refine pot_lt ?_ h3
      rw [Kdef, Kdef, hBj]
      have := Nat.mul_le_mul_right (cnt ms + 1) (show (bnd C ms (some C.W)).getD j' 0 + 1 ≤ B from h1)
      rw [Nat.add_mul] at this
      omega
    have hex : ∀ N m', m_step pn pa (m_setat m (nI (cnt p))) = m' → m_exec pn pa (N + 1) (m_setat m (nI (cnt p))) = m_exec pn pa N m' := by
      intro N m' hm
      have hs' : (m_setat m (nI (cnt p))).2.2.2.2.1 = -1 := hs
      rw [m_exec, if_pos hs', hm]
    have hat : (m_setat m (nI (cnt p))).2.2.2.1 = nI (cnt p) := rfl
    -- going on behind it
    have goon : ∀ (m1 : MM), v = some B → m1.2.2.2.2.1 = -1 → m1.2.2.2.2.2.2.1 = m.2.2.2.2.2.2.1 → m_step pn pa (m_setat m (nI (cnt p))) = m_setat m1 (nI (cnt p + 1)) → fkM (LvM ms n) t botM m1 = some R → ∃ N, N ≤ F * (cnt ms + 1) + pot K (cnt ms) (cnt p) + 1 ∧ (m_exec pn pa N (m_setat m (nI (cnt p)))).2.2.2.2.1 ≠ -1 ∧ mR (m_exec pn pa N (m_setat m (nI (cnt p)))) = R := by
      rintro m1 rfl hs1 hf1 hst hR1
      obtain ⟨hlt1, N, hN, hN2, hN3⟩ := ih (p ++ [(a, k)]) m1 F B R hp' hcv hR1 hs1 (hf1.trans hf) hF
      rw [hcm] at hlt1 hN hN2 hN3
      have hb1 := (hB (p ++ [(a, k)]) t B hp' hcv).2
      rw [hcm] at hb1
      have := hless (cnt p + 1) hb1 (by omega) hlt1
      exact ⟨N + 1, by omega, by rw [hex N _ hst]; exact hN2, by rw [hex N _ hst]; exact hN3⟩
    have h1 : ¬ a < 1 := by
      obtain ⟨x, hx, rfl⟩ := nI_of hoki.1
      intro c
      have := (nI_ltI hx (by omega) (b := 1)).mp c
      exact h0 (by rw [show x = 0 by omega]; rfl)
    have hplain : a < 17 → v = some B := by
      intro h17
      have := c1 (C := C) (B := B) (k := k) h1 h17
      rw [fckM, hv] at this
      exact (Option.some.inj this)
    by_cases h7 : a < 7
    · have hst : m_step pn pa (m_setat m (nI (cnt p))) = m_setat (m_move m a k) (nI (cnt p + 1)) := by
        unfold m_step
        rw [hat, q1, if_pos h7, q2 (Int32.lt_trans h7 (by decide)), nI_1, setat_at, setat_move]
      have hk := m_move_keep m a k
      refine goon (m_move m a k) (hplain (Int32.lt_trans h7 (by decide))) (by rw [hk.2]; exact hs) (by rw [hk.2]) hst ?_
      have e : fkM (LvM ms n) ((a, k) :: t) botM m = fkM (LvM ms n) t botM (m_move m a k) := by
        show oneM _ (a, k) _ m = _
        rw [oneM, if_neg (pne h0), if_pos (show ((a, k) : II).1 < 7 from h7)]
      rw [← e]; exact h
    by_cases h20 : a < 20
    · have hst : m_step pn pa (m_setat m (nI (cnt p))) = m_setat (m_work m a k) (nI (cnt p + 1)) := by
        unfold m_step
        rw [hat, q1, if_neg h7, if_pos h20, q2 h20, nI_1, setat_at, setat_work]
      have e : fkM (LvM ms n) ((a, k) :: t) botM m = (if (m_work m a k).2.2.2.2.1 = -1 then fkM (LvM ms n) t botM (m_work m a k) else some (mR (m_work m a k))) := by
        show oneM _ (a, k) _ m = _
        rw [oneM, if_neg (pne h0), if_neg (show ¬ ((a, k) : II).1 < 7 from h7), if_pos (show ((a, k) : II).1 < 20 from h20)]
      rw [e] at h
      by_cases hend : (m_work m a k).2.2.2.2.1 = -1
      · rw [if_pos hend] at h
        by_cases h17 : a = 17
        · subst h17
          have hv' : v = some C.W := by
            have e : ckM C (some B) (17, k) = some (some C.W) := rfl
            rw [e] at hv
            exact (Option.some.inj hv).symm
          subst hv'
          obtain ⟨sl, a, b, pq, sa, ev, fl, L, V⟩ := m
          have hs : sa = -1 := hs
          have hf : fl = nI F := hf
          subst hs hf
          have ew : m_work (sl, a, b, pq, -1, ev, nI F, L, V) 17 k = (sl, a, b, pq, (if nI F = 0 then 1 else -1), ev, (if nI F = 0 then nI F else nI F - 1), L, V) := rfl
          by_cases hz : nI F = 0
          · rw [ew] at hend
            have hend : (if nI F = 0 then (1 : Int32) else -1) = -1 := hend
            rw [if_pos hz] at hend
            exact absurd hend (by decide)
          · have hF0 : F ≠ 0 := fun c => hz (by rw [c]; rfl)
            obtain ⟨F', rfl⟩ : ∃ F', F = F' + 1 := ⟨F - 1, by omega⟩
            rw [ew, if_neg hz, if_neg hz, nI_pred] at h hst
            obtain ⟨hlt1, N, hN, hN2, hN3⟩ := ih (p ++ [(17, k)]) _ F' C.W R hp' hcv h rfl rfl (by omega)
            rw [hcm] at hlt1 hN hN2 hN3
            have := pot_size (K := K) hlt1
            refine ⟨N + 1, ?_, by rw [hex N _ hst]; exact hN2, by rw [hex N _ hst]; exact hN3⟩
            rw [Nat.add_mul]
            omega
        · have hend2 : ¬ a = 18 ∧ ¬ a = 19 := by
            obtain ⟨sl, a', b, pq, sa, ev, fl, L, V⟩ := m
            constructor
            · rintro rfl
              have : (0 : Int32) = -1 := hend
              exact absurd this (by decide)
            · rintro rfl
              have : (4 : Int32) = -1 := hend
              exact absurd this (by decide)
          have ha17 : a < 17 := by
            obtain ⟨x, hx, rfl⟩ := nI_of hoki.1
            have x20 := (nI_ltI hx (by omega) (b := 20)).mp h20
            have n17 : x ≠ 17 := fun c => h17 (by rw [c]; rfl)
            have n18 : x ≠ 18 := fun c => hend2.1 (by rw [c]; rfl)
            have n19 : x ≠ 19 := fun c => hend2.2 (by rw [c]; rfl)
            exact (nI_ltI hx (by omega) (b := 17)).mpr (by omega)
          exact goon (m_work m a k) (hplain ha17) hend (work_fl m h17) hst h
      · rw [if_neg hend] at h
        have hR := Option.some.inj h
        refine ⟨1, by omega, ?_, ?_⟩
        · rw [hex 0 _ hst]; exact hend
        · rw [hex 0 _ hst]; exact hR
    · have e : fkM (LvM ms n) ((a, k) :: t) botM m = (if m_jumps a m.2.1 m.2.2.1 = true then LvM ms n k m else fkM (LvM ms n) t botM m) := by
        show oneM _ (a, k) _ m = _
        rw [oneM, if_neg (pne h0), if_neg (show ¬ ((a, k) : II).1 < 7 from h7), if_neg (show ¬ ((a, k) : II).1 < 20 from h20)]
      rw [e] at h
      have hrho : C.rho k < B ∧ (a = 20 ∨ v = some B) := by
        have e0 : ¬ a = 17 := fun c => h20 (by rw [c]; decide)
        have e1 : ¬ (a = 18 ∨ a = 19) := by rintro (c | c) <;> exact h20 (by rw [c]; decide)
        by_cases c20 : a = 20
        · subst c20
          have e : ckM C (some B) (20, k) = (if C.rho k < B then some none else none) := rfl
          rw [e] at hv
          by_cases c : C.rho k < B
          · exact ⟨c, .inl rfl⟩
          · rw [if_neg c] at hv; cases hv
        · have hgt : 20 < a := by
            obtain ⟨x, hx, rfl⟩ := nI_of hoki.1
            have n20 : x ≠ 20 := fun c => c20 (by rw [c]; rfl)
            have : ¬ x < 20 := fun c => h20 ((nI_ltI hx (by omega) (b := 20)).mpr c)
            exact (nI_ltI (by omega) hx (a := 20)).mpr (by omega)
          simp only [ckM, h0, e0, e1, c20, hgt, if_false, if_true] at hv
          by_cases c : C.rho k < B
          · rw [if_pos c] at hv; exact ⟨c, .inr (Option.some.inj hv).symm⟩
          · rw [if_neg c] at hv; cases hv
      have hjm : m_jumps (nAt pn (m_setat m (nI (cnt p))).2.2.2.1) (m_setat m (nI (cnt p))).2.1 (m_setat m (nI (cnt p))).2.2.1 = m_jumps a m.2.1 m.2.2.1 := by
        rw [hat, q1]; rfl
      by_cases hj : m_jumps a m.2.1 m.2.2.1 = true
      · rw [if_pos hj] at h
        cases n with
        | zero => cases h
        | succ n =>
          cases ha : afterM ms k with
          | none => simp only [LvM, ha] at h; cases h
          | some t2 =>
            rw [LvM_succ ha] at h
            obtain ⟨q, hq⟩ := afterM_split ha
            have hst : m_step pn pa (m_setat m (nI (cnt p))) = m_setat m (nI (cnt q)) := by
              unfold m_step
              rw [hjm, hat, q1, if_neg h7, if_neg h20, if_pos hj, q3 h20 q t2 hq, setat_at]
            have hq' : ms = (q ++ [(0, k)]) ++ t2 := by rw [hq]; simp
            have hcq : cnt (q ++ [(0, k)]) = cnt q := by rw [cnt_app, cnt_m, Nat.add_zero]
            obtain ⟨hlt1, N, hN, hN2, hN3⟩ := ihn n (by omega) t2 (q ++ [(0, k)]) m F (C.rho k) R hq' (mark q t2 k hq) h hs hf hF
            have hb1 := (hB (q ++ [(0, k)]) t2 (C.rho k) hq' (mark q t2 k hq)).2
            rw [hcq] at hlt1 hN hN2 hN3 hb1
            have := hless2 (cnt q) (by omega) hlt1
            exact ⟨N + 1, by omega, by rw [hex N _ hst]; exact hN2, by rw [hex N _ hst]; exact hN3⟩
      · rw [if_neg hj] at h
        have hst : m_step pn pa (m_setat m (nI (cnt p))) = m_setat m (nI (cnt p + 1)) := by
          unfold m_step
          rw [hjm, hat, q1, if_neg h7, if_neg h20, if_neg hj, nI_1, setat_at]
        refine goon m (hrho.2.resolve_left (fun c => ?_)) hs rfl hst h
        subst c
        exact hj rfl
