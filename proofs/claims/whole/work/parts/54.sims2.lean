/-! ... of two values, and the jumps -/
theorem meet_slot {t : TX} (w : TW t) {d q : Nat} (hd : t.2.1.length = d + 2) (hq : q < d) (h0 : nAt t.2.1 (nI q) = 0) (m : Bool) : nAt (tx_meet t m).1.2.1 (nI q) = 0 := by
  have h60 := w.d60
  have ey : nI t.2.1.length - 1 = nI (d + 1) := by rw [hd]; exact nI_pred (d + 1)
  have ex : nI (d + 1) - 1 = nI d := nI_pred d
  have st : ∀ (u : TX), TW u → u.2.1.length = d + 2 → ∀ p, p < d + 2 → q ≠ p → nAt u.2.1 (nI q) = 0 → nAt (tx_toA u (nI p)).2.1 (nI q) = 0 := fun u wu hu p hp hne h => toA_slot wu (by omega) (by omega) hne h
  unfold tx_meet
  simp only [ey, ex]
  have m1 := toA_mv w (p := d) (by omega)
  have m2 := toA_mv w (p := d + 1) (by omega)
  have m3 := toA_mv m2.1 (p := d) (by rw [m2.2.1]; omega)
  have s1 := st t w hd d (by omega) (by omega) h0
  have s2 := st t w hd (d + 1) (by omega) (by omega) h0
  have s3 := st _ m2.1 (by rw [m2.2.1, hd]) d (by omega) (by omega) s2
  by_cases c1 : t.2.2.2.1 = nI (d + 1) ∧ t.2.2.2.2 = nI d
  · rw [if_pos c1]; exact h0
  rw [if_neg c1]
  by_cases c2 : ¬ t.2.2.2.1 = nI (d + 1) ∧ ¬ t.2.2.2.2 = nI (d + 1)
  · rw [if_pos c2]
    exact st _ m1.1 (by rw [m1.2.1, hd]) (d + 1) (by omega) (by omega) s1
  rw [if_neg c2]
  by_cases c3 : t.2.2.2.1 = nI d
  · rw [if_pos c3]
    cases m with
    | true => exact h0
    | false => exact s2
  · rw [if_neg c3]
    cases m with
    | true => exact s3
    | false => exact st _ m3.1 (by rw [m3.2.1, m2.2.1, hd]) (d + 1) (by omega) (by omega) s3
/-- both registers have the top two: what is below does not feel what comes into them -/
theorem locv_low {t : TX} {d : Nat} (hl : t.2.1.length ≤ 60) (hA : t.2.2.2.1 = nI d ∨ t.2.2.2.1 = nI (d + 1)) (hB : t.2.2.2.2 = nI d ∨ t.2.2.2.2 = nI (d + 1)) (hd : d + 2 ≤ 60) {m m' : MM} (h1 : m'.1 = m.1) (h2 : m'.2.2.2.2.2.2.2.1 = m.2.2.2.2.2.2.2.1) {q : Nat} (hq : q < d) : locv t m' q = locv t m q := by
  have na : ¬ t.2.2.2.1 = nI q := by
    intro c
    rcases hA with h | h <;> rw [h] at c <;> have := (nI_eq (by omega) (by omega)).mp c <;> omega
  have nb : ¬ t.2.2.2.2 = nI q := by
    intro c
    rcases hB with h | h <;> rw [h] at c <;> have := (nI_eq (by omega) (by omega)).mp c <;> omega
  unfold locv
  rw [if_neg na, if_neg nb, if_neg na, if_neg nb, h1, h2]
theorem two_AB {t : TX} {σ : Sg} {m : MM} {d : Nat} (hR : Rel t σ m) (hd : t.2.1.length = d + 2) (hA : t.2.2.2.1 = nI (d + 1)) (hB : t.2.2.2.2 = nI d) : m.2.1 = σ.st 0 ∧ m.2.2.1 = σ.st 1 := by
  have h60 := hR.1.d60
  have hxy : ¬ nI (d + 1) = nI d := fun c => by have := (nI_eq (by omega) (by omega)).mp c; omega
  have h1 := hR.2.2 (d + 1) (by omega)
  have h2 := hR.2.2 d (by omega)
  unfold locv at h1 h2
  rw [if_pos hA, hd, show d + 2 - 1 - (d + 1) = 0 by omega] at h1
  rw [if_neg (by rw [hA]; exact hxy), if_pos hB, hd, show d + 2 - 1 - d = 1 by omega] at h2
  exact ⟨h1, h2⟩
theorem two_BA {t : TX} {σ : Sg} {m : MM} {d : Nat} (hR : Rel t σ m) (hd : t.2.1.length = d + 2) (hA : t.2.2.2.1 = nI d) (hB : t.2.2.2.2 = nI (d + 1)) : m.2.1 = σ.st 1 ∧ m.2.2.1 = σ.st 0 := by
  have h60 := hR.1.d60
  have hxy : ¬ nI d = nI (d + 1) := fun c => by have := (nI_eq (by omega) (by omega)).mp c; omega
  have h1 := hR.2.2 (d + 1) (by omega)
  have h2 := hR.2.2 d (by omega)
  unfold locv at h1 h2
  rw [if_neg (by rw [hA]; exact hxy), if_pos hB, hd, show d + 2 - 1 - (d + 1) = 0 by omega] at h1
  rw [if_pos hA, hd, show d + 2 - 1 - d = 1 by omega] at h2
  exact ⟨h2, h1⟩
/-- the top two have become one, which is in A -/
theorem rel_leave {t : TX} {σ σ' : Sg} {m m' : MM} {d : Nat} (hR : Rel t σ m) (hd : t.2.1.length = d + 2) (hA : t.2.2.2.1 = nI d ∨ t.2.2.2.1 = nI (d + 1)) (hB : t.2.2.2.2 = nI d ∨ t.2.2.2.2 = nI (d + 1)) (b : Bs σ' m') (h1 : m'.1 = m.1) (h2 : m'.2.2.2.2.2.2.2.1 = m.2.2.2.2.2.2.2.1) {v : Int32} (hv : m'.2.1 = v) (hs : σ'.st = s_psh (s_pop σ.st 2) v) (x : List II) : Rel (tx_leave (x, t.2)) σ' m' := by
  obtain ⟨w, -, vs⟩ := hR
  have h60 := w.d60
  obtain ⟨wd, ld, vd, rd, kd⟩ := drop_tw (TW_img w x) (c := 2) (d := d) hd
  have hd2 : (nI 2 : Int32) = 2 := rfl
  rw [hd2] at wd ld vd rd kd
  have nA : ∀ q, q < d → ¬ t.2.2.2.1 = nI q := by
    intro q hq c
    rcases hA with h | h <;> rw [h] at c <;> have := (nI_eq (by omega) (by omega)).mp c <;> omega
  have nB : ∀ q, q < d → ¬ t.2.2.2.2 = nI q := by
    intro q hq c
    rcases hB with h | h <;> rw [h] at c <;> have := (nI_eq (by omega) (by omega)).mp c <;> omega
  have vd' : ∀ q, q < d → locv (tx_drop (x, t.2) 2) m' q = σ.st (d + 2 - 1 - q) := by
    intro q hq
    rw [vd m' q hq]
    show locv t m' q = _
    rw [locv_low h60 hA hB (by omega) h1 h2 hq, vs q (by omega), hd]
  have iA0 : (tx_drop (x, t.2) 2).2.2.2.1 = -1 := by
    rcases wd.iA with c | ⟨p, hp, c⟩
    · exact c
    · rw [ld] at hp; exact absurd ((rd p hp).1.mp c) (nA p hp)
  have iB0 : (tx_drop (x, t.2) 2).2.2.2.2 = -1 := by
    rcases wd.iB with c | ⟨p, hp, c⟩
    · exact c
    · rw [ld] at hp; exact absurd ((rd p hp).2.mp c) (nB p hp)
  have eu : tx_leave (x, t.2) = ((tx_drop (x, t.2) 2).1, (tx_drop (x, t.2) 2).2.1 ++ [1], (tx_drop (x, t.2) 2).2.2.1 ++ [0], nI d, (tx_drop (x, t.2) 2).2.2.2.2) := by
    have e : nI (tx_lay (tx_drop (x, t.2) 2) 1 0).2.1.length - 1 = nI d := by
      have : (tx_lay (tx_drop (x, t.2) 2) 1 0).2.1.length = d + 1 := by simp [tx_lay, ld]
      rw [this]
      exact nI_pred d
    unfold tx_leave
    rw [e]
    rfl
  rw [eu]
  clear eu
  generalize tx_drop (x, t.2) 2 = u at *
  rw [iB0]
  have hlen := wd.len
  have kin : ∀ (l : List Int32) (v : Int32) q, q < l.length → l.length < 2 ^ 31 → nAt (l ++ [v]) (nI q) = nAt l (nI q) := by
    intro l v q hq hl
    rw [nAt_nat (by omega), nAt_nat (by omega), List.getD_eq_getElem?_getD, List.getD_eq_getElem?_getD, List.getElem?_append_left hq]
  have klast : ∀ (l : List Int32) (v : Int32), l.length < 2 ^ 31 → nAt (l ++ [v]) (nI l.length) = v := by
    intro l v hl
    rw [nAt_nat hl, List.getD_eq_getElem?_getD, List.getElem?_append_right (Nat.le_refl _), Nat.sub_self]
    rfl
  have hl2 : (u.2.1 ++ [(1 : Int32)]).length = d + 1 := by simp [ld]
  refine ⟨⟨by show (u.2.2.1 ++ [(0 : Int32)]).length = (u.2.1 ++ [(1 : Int32)]).length; simp [hlen], by show (u.2.1 ++ [(1 : Int32)]).length ≤ 60; omega, .inr ⟨d, by show d < (u.2.1 ++ [(1 : Int32)]).length; omega, rfl⟩, .inl rfl, fun c => c, fun p hp hr => ?_, fun p hp => ?_⟩, b, fun q hq => ?_⟩
  · have hp : p < (u.2.1 ++ [(1 : Int32)]).length := hp
    have hr : nI d = nI p := hr.resolve_right (fun c => nI_ne_neg (by omega : p < 2 ^ 31) c.symm)
    have e : d = p := (nI_eq (by omega) (by omega)).mp hr
    subst e
    show nAt (u.2.1 ++ [(1 : Int32)]) (nI d) = 1
    rw [← ld]
    exact klast _ _ (by omega)
  · have hp : p < (u.2.1 ++ [(1 : Int32)]).length := hp
    rcases Nat.lt_or_ge p d with c | c
    · show nAt (u.2.1 ++ [(1 : Int32)]) (nI p) = 0 ∨ nAt (u.2.1 ++ [(1 : Int32)]) (nI p) = 2 ∨ nAt (u.2.1 ++ [(1 : Int32)]) (nI p) = 3 ∨ _ ∨ _
      rw [kin _ _ p (by omega) (by omega)]
      rcases wd.knd p (by omega) with k | k | k | k | k
      · exact .inl k
      · exact .inr (.inl k)
      · exact .inr (.inr (.inl k))
      · rw [iA0] at k; exact absurd k.symm (nI_ne_neg (by omega))
      · rw [iB0] at k; exact absurd k.symm (nI_ne_neg (by omega))
    · have e : p = d := by omega
      subst e
      exact .inr (.inr (.inr (.inl rfl)))
  · have hq : q < (u.2.1 ++ [(1 : Int32)]).length := hq
    show locv _ m' q = σ'.st ((u.2.1 ++ [(1 : Int32)]).length - 1 - q)
    rw [hl2, hs]
    rcases Nat.lt_or_ge q d with c | c
    · have h3 := vd' q c
      unfold locv at h3 ⊢
      rw [iA0, iB0, if_neg (fun k : (-1 : Int32) = nI q => nI_ne_neg (by omega) k.symm), if_neg (fun k : (-1 : Int32) = nI q => nI_ne_neg (by omega) k.symm)] at h3
      show (if nI d = nI q then _ else if (-1 : Int32) = nI q then _ else if nAt (u.2.1 ++ [(1 : Int32)]) (nI q) = 0 then _ else if nAt (u.2.1 ++ [(1 : Int32)]) (nI q) = 2 then nAt (u.2.2.1 ++ [(0 : Int32)]) (nI q) else mLa _ (nAt (u.2.2.1 ++ [(0 : Int32)]) (nI q))) = _
      rw [if_neg (fun k => by have := (nI_eq (by omega) (by omega)).mp k; omega), if_neg (fun k : (-1 : Int32) = nI q => nI_ne_neg (by omega) k.symm), kin _ _ q (by omega) (by omega), kin _ _ q (by omega) (by omega), h3]
      unfold s_psh s_pop
      rw [if_neg (by omega)]
      congr 1
      omega
    · have e : q = d := by omega
      subst e
      unfold locv
      show (if nI q = nI q then m'.2.1 else _) = _
      rw [if_pos rfl, hv, show q + 1 - 1 - q = 0 by omega]
      rfl
theorem a_mir_holds {c x y : Int32} (h : k6 c) : a_holds (a_mir c) y x = a_holds c x y := by
  rcases h with rfl | rfl | rfl | rfl | rfl | rfl
  · show decide (y = x) = decide (x = y); simp only [eq_comm]
  · show decide (¬ y = x) = decide (¬ x = y); simp only [eq_comm]
  · show decide (x < y) = decide (x < y); rfl
  · show decide (¬ y < x) = decide (¬ y < x); rfl
  · show decide (y < x) = decide (y < x); rfl
  · show decide (¬ x < y) = decide (¬ x < y); rfl
theorem a_mir_cmp {c x y : Int32} (h : k6 c) : a_compare (a_mir c) y x = a_compare c x y := by
  unfold a_compare; rw [a_mir_holds h]
theorem k6_mir {c : Int32} (h : k6 c) : k6 (a_mir c) := by
  rcases h with rfl | rfl | rfl | rfl | rfl | rfl <;> decide
theorem a_calc_comm {k x y : Int32} (h : a_commutes k = true) : a_calc k y x = a_calc k x y ∧ a_divides k = false := by
  have h : k = 0 ∨ k = 2 ∨ (¬ k < 5 ∧ ¬ 8 < k) := by simpa [a_commutes] using h
  have h : k = 0 ∨ k = 2 ∨ k = 5 ∨ k = 6 ∨ k = 7 ∨ k = 8 := by
    rcases h with h | h | ⟨h1, h2⟩
    · exact .inl h
    · exact .inr (.inl h)
    · have hk : ¬ k < 0 := fun c => h1 (Int32.lt_trans c (by decide))
      obtain ⟨n, hn, rfl⟩ := nI_of hk
      have e5 : ¬ n < 5 := fun c => h1 ((nI_ltI hn (by omega) (b := 5)).mpr c)
      have e8 : ¬ 8 < n := fun c => h2 ((nI_ltI (by omega) hn (a := 8)).mpr c)
      have : n = 5 ∨ n = 6 ∨ n = 7 ∨ n = 8 := by omega
      rcases this with rfl | rfl | rfl | rfl
      · exact .inr (.inr (.inl rfl))
      · exact .inr (.inr (.inr (.inl rfl)))
      · exact .inr (.inr (.inr (.inr (.inl rfl))))
      · exact .inr (.inr (.inr (.inr (.inr rfl))))
  rcases h with rfl | rfl | rfl | rfl | rfl | rfl
  · exact ⟨Int32.add_comm y x, rfl⟩
  · exact ⟨Int32.mul_comm y x, rfl⟩
  · exact ⟨Int32.and_comm y x, rfl⟩
  · exact ⟨Int32.or_comm y x, rfl⟩
  · exact ⟨congrArg (· ^^^ (-1 : Int32)) (Int32.xor_comm y x), rfl⟩
  · exact ⟨Int32.xor_comm y x, rfl⟩
section SIM2
variable {Λ : Int32 → KK} {ΛM : Int32 → KM} {t : TX} {d : Nat}
theorem sim_7 {k : Int32} (hd : t.2.1.length = d + 2) (w : TW t) : Sm [(12, k)] (one Λ (7, k)) ΛM t (tx_leave (tx_write (tx_meet t (a_commutes k)).1 12 k)) := by
  obtain ⟨hm, hc⟩ := meet_mv w hd (a_commutes k)
  have hl := hm.2.1
  refine Sm_pre hm ?_
  generalize tx_meet t (a_commutes k) = u at *
  refine ⟨[], quiet_nil, rfl, fun κ κM hκ σ m hR => ?_⟩
  have hlu : u.1.2.1.length = d + 2 := by rw [hl, hd]
  have bs := hR.2.1
  have hab : (m.2.1 = σ.st 0 ∧ m.2.2.1 = σ.st 1) ∨ (a_commutes k = true ∧ m.2.1 = σ.st 1 ∧ m.2.2.1 = σ.st 0) := by
    rcases hc with ⟨-, h1, h2⟩ | ⟨hk, -, h1, h2⟩
    · exact .inl (two_AB hR hlu h1 h2)
    · exact .inr ⟨hk, two_BA hR hlu h1 h2⟩
  have hA : u.1.2.2.2.1 = nI d ∨ u.1.2.2.2.1 = nI (d + 1) := by
    rcases hc with ⟨-, h1, -⟩ | ⟨-, -, h1, -⟩
    · exact .inr h1
    · exact .inl h1
  have hB : u.1.2.2.2.2 = nI d ∨ u.1.2.2.2.2 = nI (d + 1) := by
    rcases hc with ⟨-, -, h2⟩ | ⟨-, -, -, h2⟩
    · exact .inl h2
    · exact .inr h2
  have hv : (m.2.1 = 0 ∧ a_divides k = true ↔ σ.st 0 = 0 ∧ a_divides k = true) ∧ a_calc k m.2.2.1 m.2.1 = a_calc k (σ.st 1) (σ.st 0) := by
    rcases hab with ⟨e1, e2⟩ | ⟨hk, e1, e2⟩
    · rw [e1, e2]; exact ⟨Iff.rfl, rfl⟩
    · obtain ⟨c1, c2⟩ := a_calc_comm (x := σ.st 1) (y := σ.st 0) hk
      rw [e1, e2, c1, c2]; simp
  obtain ⟨st, pd, L, V, f⟩ := σ
  obtain ⟨sl, a, b, pq, sa, ev, fl, L', V'⟩ := m
  obtain ⟨b1, b2, b3, b4, b5, b6, b7⟩ := bs
  simp only [Sg.pd, Sg.f, Sg.L, Sg.V, Sg.st] at b1 b3 b4 b5 b6 b7 hv
  subst b1 b3 b4 b5 b6 b7
  rw [one_7]
  show Ole _ (if (if a = 0 ∧ a_divides k = true then (3 : Int32) else -1) = -1 then κM (sl, (if a = 0 ∧ a_divides k = true then a else a_calc k b a), b, pq, (if a = 0 ∧ a_divides k = true then (3 : Int32) else -1), 0, fl, L', V') else some ((if a = 0 ∧ a_divides k = true then (3 : Int32) else -1), 0, fl, L', V'))
  simp only [hv.1]
  by_cases c : st 0 = 0 ∧ a_divides k = true
  · simp only [if_pos c]; exact Ole.refl _
  · simp only [if_neg c, if_true]
    refine hκ _ _ (rel_leave (m' := (sl, a_calc k b a, b, pq, -1, 0, fl, L', V')) (σ' := (s_psh (s_pop st 2) (a_calc k (st 1) (st 0)), none, L', V', fl)) hR hlu hA hB ⟨rfl, b2, rfl, rfl, rfl, rfl, rfl⟩ rfl rfl rfl ?_ _)
    show s_psh (s_pop st 2) (a_calc k (st 1) (st 0)) = s_psh (s_pop st 2) (a_calc k b a)
    rw [hv.2]
theorem meet_all {m0 : Bool} (hd : t.2.1.length = d + 2) (w : TW t) : Mv t (tx_meet t m0).1 ∧ (tx_meet t m0).1.2.1.length = d + 2 ∧ ((tx_meet t m0).1.2.2.2.1 = nI d ∨ (tx_meet t m0).1.2.2.2.1 = nI (d + 1)) ∧ ((tx_meet t m0).1.2.2.2.2 = nI d ∨ (tx_meet t m0).1.2.2.2.2 = nI (d + 1)) ∧
    ∀ σ m, Rel (tx_meet t m0).1 σ m → ((tx_meet t m0).2 = false ∧ m.2.1 = σ.st 0 ∧ m.2.2.1 = σ.st 1) ∨ (m0 = true ∧ (tx_meet t m0).2 = true ∧ m.2.1 = σ.st 1 ∧ m.2.2.1 = σ.st 0) := by
  obtain ⟨hm, hc⟩ := meet_mv w hd m0
  have hl := hm.2.1
  refine ⟨hm, by rw [hl, hd], ?_, ?_, fun σ m hR => ?_⟩
  · rcases hc with ⟨-, h1, -⟩ | ⟨-, -, h1, -⟩
    · exact .inr h1
    · exact .inl h1
  · rcases hc with ⟨-, -, h2⟩ | ⟨-, -, -, h2⟩
    · exact .inl h2
    · exact .inr h2
  · rcases hc with ⟨e, h1, h2⟩ | ⟨hk, e, h1, h2⟩
    · exact .inl ⟨e, two_AB hR (by rw [hl, hd]) h1 h2⟩
    · exact .inr ⟨hk, e, two_BA hR (by rw [hl, hd]) h1 h2⟩
theorem sim_8 {k : Int32} (hk : k6 k) (hd : t.2.1.length = d + 2) (w : TW t) : Sm [(13, if (tx_meet t true).2 = true then a_mir k else k)] (one Λ (8, k)) ΛM t (tx_leave (tx_write (tx_meet t true).1 13 (if (tx_meet t true).2 = true then a_mir k else k))) := by
  obtain ⟨hm, hlu, hA, hB, hv⟩ := meet_all (m0 := true) hd w
  refine Sm_pre hm ?_
  generalize tx_meet t true = u at *
  refine ⟨[], quiet_nil, rfl, fun κ κM hκ σ m hR => ?_⟩
  have bs := hR.2.1
  have hv : a_compare (if u.2 = true then a_mir k else k) m.2.2.1 m.2.1 = a_compare k (σ.st 1) (σ.st 0) := by
    rcases hv σ m hR with ⟨e, e1, e2⟩ | ⟨-, e, e1, e2⟩
    · rw [e, e1, e2]; rfl
    · rw [e, e1, e2, if_pos rfl, a_mir_cmp hk]
  generalize (if u.2 = true then a_mir k else k) = k' at *
  obtain ⟨st, pd, L, V, f⟩ := σ
  obtain ⟨sl, a, b, pq, sa, ev, fl, L', V'⟩ := m
  obtain ⟨b1, b2, b3, b4, b5, b6, b7⟩ := bs
  simp only [Sg.pd, Sg.f, Sg.L, Sg.V, Sg.st] at b1 b3 b4 b5 b6 b7 hv
  subst b1 b3 b4 b5 b6 b7
  rw [one_8]
  show Ole _ (κM (sl, a_compare k' b a, b, pq, -1, 0, fl, L', V'))
  refine hκ _ _ (rel_leave (m' := (sl, a_compare k' b a, b, pq, -1, 0, fl, L', V')) (σ' := (s_psh (s_pop st 2) (a_compare k (st 1) (st 0)), none, L', V', fl)) hR hlu hA hB ⟨rfl, b2, rfl, rfl, rfl, rfl, rfl⟩ rfl rfl rfl ?_ _)
  show s_psh (s_pop st 2) (a_compare k (st 1) (st 0)) = s_psh (s_pop st 2) (a_compare k' b a)
  rw [hv]
theorem sim_19 {k : Int32} (hd : t.2.1.length = d + 2) (w : TW t) : Sm [(15, 0)] (one Λ (19, k)) ΛM t (tx_leave (tx_write (tx_meet t false).1 15 0)) := by
  obtain ⟨hm, hlu, hA, hB, hv⟩ := meet_all (m0 := false) hd w
  refine Sm_pre hm ?_
  generalize tx_meet t false = u at *
  refine ⟨[], quiet_nil, rfl, fun κ κM hκ σ m hR => ?_⟩
  have bs := hR.2.1
  have hv : m.2.1 = σ.st 0 ∧ m.2.2.1 = σ.st 1 := by
    rcases hv σ m hR with ⟨e, e1, e2⟩ | ⟨e, -⟩
    · exact ⟨e1, e2⟩
    · cases e
  obtain ⟨st, pd, L, V, f⟩ := σ
  obtain ⟨sl, a, b, pq, sa, ev, fl, L', V'⟩ := m
  obtain ⟨b1, b2, b3, b4, b5, b6, b7⟩ := bs
  obtain ⟨v1, v2⟩ := hv
  simp only [Sg.pd, Sg.f, Sg.L, Sg.V, Sg.st] at b1 b3 b4 b5 b6 b7 v1 v2
  subst b1 b3 b4 b5 b6 b7 v1 v2
  show Ole (if m_hasW (m_ba (st 0) (st 1)) = true then κ ⟨s_psh (s_pop st 2) (m_fb V' (st 0) (st 1)), none, L', V', fl⟩ else some (2, 0, fl, L', V')) (if (if m_hasW (m_ba (st 0) (st 1)) = true then (-1 : Int32) else 2) = -1 then κM (sl, (if m_hasW (m_ba (st 0) (st 1)) = true then m_fb V' (st 0) (st 1) else st 0), st 1, pq, (if m_hasW (m_ba (st 0) (st 1)) = true then (-1 : Int32) else 2), 0, fl, L', V') else some ((if m_hasW (m_ba (st 0) (st 1)) = true then (-1 : Int32) else 2), 0, fl, L', V'))
  by_cases c : m_hasW (m_ba (st 0) (st 1)) = true
  · simp only [if_pos c, if_true]
    exact hκ _ _ (rel_leave (m' := (sl, m_fb V' (st 0) (st 1), st 1, pq, -1, 0, fl, L', V')) (σ' := (s_psh (s_pop st 2) (m_fb V' (st 0) (st 1)), none, L', V', fl)) hR hlu hA hB ⟨rfl, b2, rfl, rfl, rfl, rfl, rfl⟩ rfl rfl rfl rfl _)
  · simp only [if_neg c]; exact Ole.refl _
theorem sim_4 {k : Int32} (hd : t.2.1.length = d + 2) (w : TW t) : Sm [(9, 0)] (one Λ (4, k)) ΛM t (tx_drop (tx_write (tx_meet t false).1 9 0) 2) := by
  obtain ⟨hm, hlu, hA, hB, hv⟩ := meet_all (m0 := false) hd w
  refine Sm_pre hm ?_
  generalize tx_meet t false = u at *
  refine ⟨[], quiet_nil, rfl, fun κ κM hκ σ m hR => ?_⟩
  have bs := hR.2.1
  have hv : m.2.1 = σ.st 0 ∧ m.2.2.1 = σ.st 1 := by
    rcases hv σ m hR with ⟨e, e1, e2⟩ | ⟨e, -⟩
    · exact ⟨e1, e2⟩
    · cases e
  have h60 := hR.1.d60
  obtain ⟨st, pd, L, V, f⟩ := σ
  obtain ⟨sl, a, b, pq, sa, ev, fl, L', V'⟩ := m
  obtain ⟨b1, b2, b3, b4, b5, b6, b7⟩ := bs
  obtain ⟨v1, v2⟩ := hv
  simp only [Sg.pd, Sg.f, Sg.L, Sg.V, Sg.st] at b1 b3 b4 b5 b6 b7 v1 v2
  subst b1 b3 b4 b5 b6 b7 v1 v2
  show Ole (if m_hasW (st 0).toInt64 = true then κ ⟨s_pop st 2, none, L', mV V' (st 0) (st 1), fl⟩ else some (2, 0, fl, L', V')) (if (if m_hasW (st 0).toInt64 = true then (-1 : Int32) else 2) = -1 then κM (sl, st 0, st 1, pq, (if m_hasW (st 0).toInt64 = true then (-1 : Int32) else 2), 0, fl, L', (if m_hasW (st 0).toInt64 = true then mV V' (st 0) (st 1) else V')) else some ((if m_hasW (st 0).toInt64 = true then (-1 : Int32) else 2), 0, fl, L', (if m_hasW (st 0).toInt64 = true then mV V' (st 0) (st 1) else V')))
  by_cases c : m_hasW (st 0).toInt64 = true
  · simp only [if_pos c, if_true]
    exact hκ _ _ (rel_drop (t := tx_write u.1 9 0) (c := 2) (TW_img hR.1 _) hR.2.2 hlu ⟨rfl, b2, rfl, rfl, rfl, rfl, rfl⟩ (fun j => rfl) (fun q hq => locv_low (t := tx_write u.1 9 0) h60 hA hB (by omega) rfl rfl hq))
  · simp only [if_neg c]; exact Ole.refl _
theorem sim_9 {k : Int32} (hk : k6 k) (hd : t.2.1.length = d + 2) (w : TW t) : Sm [if (tx_meet t true).2 = true then (13, a_mir k) else (14, k)] (one Λ (9, k)) ΛM t (tx_keep t k) := by
  obtain ⟨hm, hlu, hA, hB, hv⟩ := meet_all (m0 := true) hd w
  unfold tx_keep
  refine Sm_pre hm ?_
  generalize tx_meet t true = u at *
  have h60 := hm.1.d60
  have e1 : nI (d + 2) - 1 = nI (d + 1) := nI_pred (d + 1)
  have e2 : nI (d + 1) - 1 = nI d := nI_pred d
  have hxy : ¬ nI (d + 1) = nI d := fun c => by have := (nI_eq (by omega) (by omega)).mp c; omega
  have hw : ∀ x : List II, TW (x, u.1.2.1, u.1.2.2.1, nI (d + 1), nI d) := by
    intro x
    have wu := hm.1
    have rg : ∀ p, p < u.1.2.1.length → (p = d + 1 ∨ p = d) → nAt u.1.2.1 (nI p) = 1 := by
      intro p hp he
      refine wu.reg p hp ?_
      have hab := wu.ab
      have n1 : ¬ nI d = -1 := nI_ne_neg (by omega)
      have n2 : ¬ nI (d + 1) = -1 := nI_ne_neg (by omega)
      rcases hA with hA | hA <;> rcases hB with hB | hB
      · exact absurd (hA.symm.trans (hab (hA.trans hB.symm))) n1
      · rcases he with rfl | rfl
        · exact .inr hB
        · exact .inl hA
      · rcases he with rfl | rfl
        · exact .inl hA
        · exact .inr hB
      · exact absurd (hA.symm.trans (hab (hA.trans hB.symm))) n2
    refine ⟨wu.len, wu.d60, .inr ⟨d + 1, by show d + 1 < u.1.2.1.length; omega, rfl⟩, .inr ⟨d, by show d < u.1.2.1.length; omega, rfl⟩, fun c => absurd c hxy, fun p hp hr => ?_, fun p hp => ?_⟩
    · have hp : p < u.1.2.1.length := hp
      refine rg p hp ?_
      rcases hr with hr | hr
      · left; have := (nI_eq (by omega) (by omega)).mp hr; omega
      · right; have := (nI_eq (by omega) (by omega)).mp hr; omega
    · have hp : p < u.1.2.1.length := hp
      rcases wu.knd p hp with c | c | c | c | c
      · exact .inl c
      · exact .inr (.inl c)
      · exact .inr (.inr (.inl c))
      · rcases hA with h | h <;> rw [h] at c
        · exact .inr (.inr (.inr (.inr c)))
        · exact .inr (.inr (.inr (.inl c)))
      · rcases hB with h | h <;> rw [h] at c
        · exact .inr (.inr (.inr (.inr c)))
        · exact .inr (.inr (.inr (.inl c)))
  -- what comes behind the instruction
  have hend : ∀ (x : List II) (st L V : Nat → Int32) (fl pq : Int32) (sl : List Int32) (a b v : Int32), Rel u.1 ⟨st, none, L, V, fl⟩ (sl, a, b, pq, -1, 0, fl, L, V) → v = a_compare k (st 1) (st 0) → Rel (x, u.1.2.1, u.1.2.2.1, nI (d + 1), nI d) ⟨s_psh (s_psh (s_pop st 2) (st 0)) v, none, L, V, fl⟩ (sl, v, st 0, pq, -1, 0, fl, L, V) := by
    intro x st L V fl pq sl a b v hR hv
    refine ⟨hw x, ⟨rfl, hR.2.1.sl, rfl, rfl, rfl, rfl, rfl⟩, fun q hq => ?_⟩
    have hq : q < u.1.2.1.length := hq
    show locv _ _ q = s_psh (s_psh (s_pop st 2) (st 0)) v (u.1.2.1.length - 1 - q)
    rw [hlu]
    unfold locv
    show (if nI (d + 1) = nI q then v else if nI d = nI q then st 0 else if nAt u.1.2.1 (nI q) = 0 then nAt sl (nI q) else if nAt u.1.2.1 (nI q) = 2 then nAt u.1.2.2.1 (nI q) else mLa L (nAt u.1.2.2.1 (nI q))) = _
    by_cases c1 : q = d + 1
    · subst c1
      rw [if_pos rfl, show d + 2 - 1 - (d + 1) = 0 by omega]
      rfl
    rw [if_neg (fun c => c1 ((nI_eq (by omega) (by omega)).mp c).symm)]
    by_cases c2 : q = d
    · subst c2
      rw [if_pos rfl, show q + 2 - 1 - q = 1 by omega]
      rfl
    rw [if_neg (fun c => c2 ((nI_eq (by omega) (by omega)).mp c).symm)]
    have h3 := hR.2.2 q hq
    unfold locv at h3
    have na : ¬ u.1.2.2.2.1 = nI q := by
      intro c
      rcases hA with h | h <;> rw [h] at c <;> have := (nI_eq (by omega) (by omega)).mp c <;> omega
    have nb : ¬ u.1.2.2.2.2 = nI q := by
      intro c
      rcases hB with h | h <;> rw [h] at c <;> have := (nI_eq (by omega) (by omega)).mp c <;> omega
    rw [if_neg na, if_neg nb] at h3
    refine Eq.trans h3 ?_
    show st (u.1.2.1.length - 1 - q) = _
    rw [hlu]
    unfold s_psh s_pop
    rw [if_neg (by omega), if_neg (by omega)]
    congr 1
    omega
  by_cases c : u.2 = true
  · simp only [if_pos c]
    refine ⟨[], quiet_nil, rfl, fun κ κM hκ σ m hR => ?_⟩
    have bs := hR.2.1
    have hv : m.2.1 = σ.st 1 ∧ m.2.2.1 = σ.st 0 := by
      rcases hv σ m hR with ⟨e, -⟩ | ⟨-, -, e1, e2⟩
      · rw [c] at e; cases e
      · exact ⟨e1, e2⟩
    obtain ⟨st, pd, L, V, f⟩ := σ
    obtain ⟨sl, a, b, pq, sa, ev, fl, L', V'⟩ := m
    obtain ⟨b1, b2, b3, b4, b5, b6, b7⟩ := bs
    obtain ⟨v1, v2⟩ := hv
    simp only [Sg.pd, Sg.f, Sg.L, Sg.V, Sg.st] at b1 b3 b4 b5 b6 b7 v1 v2
    subst b1 b3 b4 b5 b6 b7 v1 v2
    show Ole (κ ⟨s_psh (s_psh (s_pop st 2) (st 0)) (a_compare k (st 1) (st 0)), none, L', V', fl⟩) (κM (sl, a_compare (a_mir k) (st 0) (st 1), st 0, pq, -1, 0, fl, L', V'))
    rw [a_mir_cmp hk]
    refine hκ _ _ ?_
    have := hend (tx_write u.1 13 (a_mir k)).1 st L' V' fl pq sl _ _ _ hR rfl
    have e3 : (tx_write u.1 13 (a_mir k)).2.1.length = d + 2 := hlu
    rw [e3, e1, e2]
    exact this
  · simp only [if_neg c]
    refine ⟨[], quiet_nil, rfl, fun κ κM hκ σ m hR => ?_⟩
    have bs := hR.2.1
    have hv : m.2.1 = σ.st 0 ∧ m.2.2.1 = σ.st 1 := by
      rcases hv σ m hR with ⟨-, e1, e2⟩ | ⟨-, e, -⟩
      · exact ⟨e1, e2⟩
      · exact absurd e c
    obtain ⟨st, pd, L, V, f⟩ := σ
    obtain ⟨sl, a, b, pq, sa, ev, fl, L', V'⟩ := m
    obtain ⟨b1, b2, b3, b4, b5, b6, b7⟩ := bs
    obtain ⟨v1, v2⟩ := hv
    simp only [Sg.pd, Sg.f, Sg.L, Sg.V, Sg.st] at b1 b3 b4 b5 b6 b7 v1 v2
    subst b1 b3 b4 b5 b6 b7 v1 v2
    show Ole (κ ⟨s_psh (s_psh (s_pop st 2) (st 0)) (a_compare k (st 1) (st 0)), none, L', V', fl⟩) (κM (sl, a_compare k (st 1) (st 0), st 0, pq, -1, 0, fl, L', V'))
    refine hκ _ _ ?_
    have := hend (tx_write u.1 14 k).1 st L' V' fl pq sl _ _ _ hR rfl
    have e3 : (tx_write u.1 14 k).2.1.length = d + 2 := hlu
    rw [e3, e1, e2]
    exact this
end SIM2
